def wo_k223_X0_hasBoth : List Cond := [Cond.fieldLink RX0 22 "WarpDesk$Bench" "queries" "LWarpDesk$Queries;", Cond.methodLink RX0 30 yX4_has, Cond.instanceMethod yX4_has, Cond.selects RX4 yX4_has yX4_has, Cond.initialized RX4, Cond.fieldLink RX0 18 "WarpDesk$Bench" "series" "LWarpDesk$Series;", Cond.methodLink RX0 36 yX4_lengthOf, Cond.instanceMethod yX4_lengthOf, Cond.selects RX4 yX4_lengthOf yX4_lengthOf, Cond.methodLink RX0 40 yX6_hasWindow, Cond.instanceMethod yX6_hasWindow, Cond.selects RX6 yX6_hasWindow yX6_hasWindow, Cond.initialized RX6]
def wz_k223_X0_hasBoth : List Cond := .code yX0_hasBoth cX0_hasBoth 3 (some .boolean) :: (wo_k223_X0_hasBoth ++ (wsX00 ++ (wz_k168_X4_has ++ (wz_k182_X4_lengthOf ++ (wz_k207_X6_hasWindow ++ ([] : List Cond))))))
theorem zg_k223_X0_hasBoth : ∀ w ∈ wz_k223_X0_hasBoth, goodWord w = true := zg_cons rfl (zg_app (by decide +kernel) (zg_app zgU_wsX00 (zg_app zg_k168_X4_has (zg_app zg_k182_X4_lengthOf (zg_app zg_k207_X6_hasWindow zg_nil)))))
theorem zi_k223_X0_hasBoth : ∀ w ∈ wz_k223_X0_hasBoth, w ∈ lw_tbl := zi_cons zw_976 (zi_app (zi_cons zw_376 (zi_cons zw_977 (zi_cons zw_747 (zi_cons zw_748 (zi_cons zw_108 (zi_cons zw_373 (zi_cons zw_978 (zi_cons zw_757 (zi_cons zw_758 (zi_cons zw_979 (zi_cons zw_902 (zi_cons zw_903 (zi_cons zw_109 zi_nil))))))))))))) (zi_app inX0 (zi_app zi_k168_X4_has (zi_app zi_k182_X4_lengthOf (zi_app zi_k207_X6_hasWindow zi_nil)))))
set_option maxHeartbeats 4000000 in
set_option maxRecDepth 100000 in
theorem k223_X0_hasBoth (l : Launch) (D : va_G) (zt : Nat × Nat × Nat × (Nat → Nat) × (Nat → Nat)) (q : Nat → Nat) (d : Nat → ClassId) (I : Nat → Int32) (A : Nat → Nat → Int32) (z1 : Int32) (z2 : Int32) (hIv : IvX I A) : GM l D zt (tyX d) yX0_hasBoth wz_k223_X0_hasBoth ({ frames := 3, cells := 0, slots := 0, locals := 65 } : Room) [.ref (q 37), .int z1, .int z2] (wX q d I A) (fun v _ w' => (v = some (.int 0) ∧ w' = wX q d I A) ∨ ((¬ (z1.toInt < 0)) ∧ (¬ (5 ≤ z1.toInt)) ∧ (0 ≤ z1.toInt) ∧ (z1.toInt ≤ 4) ∧ (0 ≤ z1.toInt) ∧ (z1.toInt ≤ 4) ∧ (0 ≤ z2.toInt) ∧ (z2.toInt ≤ 159) ∧ v = some (.int 1) ∧ w' = wX q d I A)) 0 0 := by
  refine GM.of (cc := cX0_hasBoth) (maxL := 3) (ret := (some .boolean)) (own := RX0) (lv := [(0, .ref (q 37)), (1, .int z1), (2, .int z2)]) (by decide) rfl rfl (Nat.le_of_ble_eq_true rfl) rfl (fun κ sz hk hR hN => ?_)
  have hin0 : ∀ w ∈ u_ws RX0 TX0 5, w ∈ wz_k223_X0_hasBoth := fun w h => (List.mem_cons_of_mem _ (List.mem_append_right _ (List.mem_append_left _ h)))
  refine g_aload_n hk dX0_hasBoth_0 rfl ?_
  refine gX_r37_1 hk hin0 (List.mem_cons_of_mem _ (List.mem_append_left _ (List.mem_of_getElem? (i := 0) rfl))) dX0_hasBoth_1 ?_
  refine g_iload_n hk dX0_hasBoth_4 rfl ?_
  refine g_callV (n := 1) hk (k168_X4_has l D zt q d I A z1 hIv) (SP.same _) (fun _ h => h) (gi_V (List.mem_cons_of_mem _ (List.mem_append_left _ (List.mem_of_getElem? (i := 1) rfl))) (List.mem_cons_of_mem _ (List.mem_append_left _ (List.mem_of_getElem? (i := 2) rfl))) (List.mem_cons_of_mem _ (List.mem_append_left _ (List.mem_of_getElem? (i := 3) rfl))) (List.mem_cons_of_mem _ (List.mem_append_left _ (List.mem_of_getElem? (i := 4) rfl))) (gi_sub (fun w h => (List.mem_cons_of_mem _ (List.mem_append_right _ (List.mem_append_right _ (List.mem_append_left _ h))))) zg_k168_X4_has)) rfl rfl rfl (by decide +kernel) ⟨Nat.le_of_ble_eq_true rfl, Nat.le_of_ble_eq_true rfl⟩ 15 rfl rfl rfl rfl (Nat.le_of_ble_eq_true rfl) ⟨Nat.le_of_ble_eq_true rfl, Nat.le_of_ble_eq_true rfl⟩ dX0_hasBoth_5 (fun v ty' w' hp hk' => ?_)
  rcases hp with ⟨rfl, rfl⟩ | ⟨c3035, c3036, c3037, c3038, rfl, rfl⟩
  · skip
    show GW κ 3 0 0 (wX q d I A) 8 [(0, .ref (q 37)), (1, .int z1), (2, .int z2)] [.int 0]
    refine g_if_eq (tgt := 34) (a := 0) hk dX0_hasBoth_8 (by decide) rfl (fun _ => ?_) (fun z9 => absurd (show (0 : Int) = (0 : Int) from by decide) z9)
    refine g_iconst (v := 0) hk dX0_hasBoth_34 (by decide) ?_
    exact g_iret hk hR rfl (Or.inl ⟨rfl, rfl⟩) dX0_hasBoth_35
  · skip
    show GW κ 3 0 0 (wX q d I A) 8 [(0, .ref (q 37)), (1, .int z1), (2, .int z2)] [.int 1]
    refine g_if_eq (tgt := 34) (a := 1) hk dX0_hasBoth_8 (by decide) rfl (fun z9 => absurd z9 (show ¬ ((1 : Int) = (0 : Int)) from by decide)) (fun _ => ?_)
    refine g_aload_n hk dX0_hasBoth_11 rfl ?_
    refine gX_r37_0 hk hin0 (List.mem_cons_of_mem _ (List.mem_append_left _ (List.mem_of_getElem? (i := 5) rfl))) dX0_hasBoth_12 ?_
    refine g_iload_n hk dX0_hasBoth_15 rfl ?_
    refine g_aload_n hk dX0_hasBoth_16 rfl ?_
    refine gX_r37_1 hk hin0 (List.mem_cons_of_mem _ (List.mem_append_left _ (List.mem_of_getElem? (i := 0) rfl))) dX0_hasBoth_17 ?_
    refine g_iload_n hk dX0_hasBoth_20 rfl ?_
    refine g_callV (n := 1) hk (k182_X4_lengthOf l D zt q d I A z1 hIv) (SP.same _) (fun _ h => h) (gi_V (List.mem_cons_of_mem _ (List.mem_append_left _ (List.mem_of_getElem? (i := 6) rfl))) (List.mem_cons_of_mem _ (List.mem_append_left _ (List.mem_of_getElem? (i := 7) rfl))) (List.mem_cons_of_mem _ (List.mem_append_left _ (List.mem_of_getElem? (i := 8) rfl))) (List.mem_cons_of_mem _ (List.mem_append_left _ (List.mem_of_getElem? (i := 4) rfl))) (gi_sub (fun w h => (List.mem_cons_of_mem _ (List.mem_append_right _ (List.mem_append_right _ (List.mem_append_right _ (List.mem_append_left _ h)))))) zg_k182_X4_lengthOf)) rfl rfl rfl (by decide +kernel) ⟨Nat.le_of_ble_eq_true rfl, Nat.le_of_ble_eq_true rfl⟩ 15 rfl rfl rfl rfl (Nat.le_of_ble_eq_true rfl) ⟨Nat.le_of_ble_eq_true rfl, Nat.le_of_ble_eq_true rfl⟩ dX0_hasBoth_21 (fun v ty' w' hp hk' => ?_)
    rcases hp with ⟨rfl, rfl⟩ | ⟨y3047, c3041, c3042, c3043, c3044, c3045, c3046, c3048, c3049, rfl, rfl⟩
    · skip
      show GW κ 3 0 0 (wX q d I A) 24 [(0, .ref (q 37)), (1, .int z1), (2, .int z2)] [.int 0, .int z2, .ref (q 13)]
      have k3050 : (0 : Int32).toInt = 0 := rfl
      refine g_callV (n := 2) hk (k207_X6_hasWindow l D zt q d I A z2 0 hIv) (SP.same _) (fun _ h => h) (gi_V (List.mem_cons_of_mem _ (List.mem_append_left _ (List.mem_of_getElem? (i := 9) rfl))) (List.mem_cons_of_mem _ (List.mem_append_left _ (List.mem_of_getElem? (i := 10) rfl))) (List.mem_cons_of_mem _ (List.mem_append_left _ (List.mem_of_getElem? (i := 11) rfl))) (List.mem_cons_of_mem _ (List.mem_append_left _ (List.mem_of_getElem? (i := 12) rfl))) (gi_sub (fun w h => (List.mem_cons_of_mem _ (List.mem_append_right _ (List.mem_append_right _ (List.mem_append_right _ (List.mem_append_right _ (List.mem_append_left _ h))))))) zg_k207_X6_hasWindow)) rfl rfl rfl (by decide +kernel) ⟨Nat.le_of_ble_eq_true rfl, Nat.le_of_ble_eq_true rfl⟩ 13 rfl rfl rfl rfl (Nat.le_of_ble_eq_true rfl) ⟨Nat.le_of_ble_eq_true rfl, Nat.le_of_ble_eq_true rfl⟩ dX0_hasBoth_24 (fun v ty' w' hp hk' => ?_)
      rcases hp with ⟨rfl, rfl⟩ | ⟨c3052, c3053, c3054, c3055, c3056, c3057, rfl, rfl⟩
      · skip
        show GW κ 3 0 0 (wX q d I A) 27 [(0, .ref (q 37)), (1, .int z1), (2, .int z2)] [.int 0]
        refine g_if_eq (tgt := 34) (a := 0) hk dX0_hasBoth_27 (by decide) rfl (fun _ => ?_) (fun z9 => absurd (show (0 : Int) = (0 : Int) from by decide) z9)
        refine g_iconst (v := 0) hk dX0_hasBoth_34 (by decide) ?_
        exact g_iret hk hR rfl (Or.inl ⟨rfl, rfl⟩) dX0_hasBoth_35
      · skip
        show GW κ 3 0 0 (wX q d I A) 27 [(0, .ref (q 37)), (1, .int z1), (2, .int z2)] [.int 1]
        refine g_if_eq (tgt := 34) (a := 1) hk dX0_hasBoth_27 (by decide) rfl (fun z9 => absurd z9 (show ¬ ((1 : Int) = (0 : Int)) from by decide)) (fun _ => ?_)
        refine g_iconst (v := 1) hk dX0_hasBoth_30 (by decide) ?_
        refine g_goto (tgt := 35) hk dX0_hasBoth_31 (by decide) ?_
        exact g_iret hk hR rfl (Or.inr (⟨c3035, c3036, c3037, c3038, (by omega), (by omega), (by omega), (by omega), rfl, rfl⟩)) dX0_hasBoth_35
    · skip
      show GW κ 3 0 0 (wX q d I A) 24 [(0, .ref (q 37)), (1, .int z1), (2, .int z2)] [.int y3047, .int z2, .ref (q 13)]
      refine g_callV (n := 2) hk (k207_X6_hasWindow l D zt q d I A z2 y3047 hIv) (SP.same _) (fun _ h => h) (gi_V (List.mem_cons_of_mem _ (List.mem_append_left _ (List.mem_of_getElem? (i := 9) rfl))) (List.mem_cons_of_mem _ (List.mem_append_left _ (List.mem_of_getElem? (i := 10) rfl))) (List.mem_cons_of_mem _ (List.mem_append_left _ (List.mem_of_getElem? (i := 11) rfl))) (List.mem_cons_of_mem _ (List.mem_append_left _ (List.mem_of_getElem? (i := 12) rfl))) (gi_sub (fun w h => (List.mem_cons_of_mem _ (List.mem_append_right _ (List.mem_append_right _ (List.mem_append_right _ (List.mem_append_right _ (List.mem_append_left _ h))))))) zg_k207_X6_hasWindow)) rfl rfl rfl (by decide +kernel) ⟨Nat.le_of_ble_eq_true rfl, Nat.le_of_ble_eq_true rfl⟩ 13 rfl rfl rfl rfl (Nat.le_of_ble_eq_true rfl) ⟨Nat.le_of_ble_eq_true rfl, Nat.le_of_ble_eq_true rfl⟩ dX0_hasBoth_24 (fun v ty' w' hp hk' => ?_)
      rcases hp with ⟨rfl, rfl⟩ | ⟨c3060, c3061, c3062, c3063, c3064, c3065, rfl, rfl⟩
      · skip
        show GW κ 3 0 0 (wX q d I A) 27 [(0, .ref (q 37)), (1, .int z1), (2, .int z2)] [.int 0]
        refine g_if_eq (tgt := 34) (a := 0) hk dX0_hasBoth_27 (by decide) rfl (fun _ => ?_) (fun z9 => absurd (show (0 : Int) = (0 : Int) from by decide) z9)
        refine g_iconst (v := 0) hk dX0_hasBoth_34 (by decide) ?_
        exact g_iret hk hR rfl (Or.inl ⟨rfl, rfl⟩) dX0_hasBoth_35
      · skip
        show GW κ 3 0 0 (wX q d I A) 27 [(0, .ref (q 37)), (1, .int z1), (2, .int z2)] [.int 1]
        refine g_if_eq (tgt := 34) (a := 1) hk dX0_hasBoth_27 (by decide) rfl (fun z9 => absurd z9 (show ¬ ((1 : Int) = (0 : Int)) from by decide)) (fun _ => ?_)
        refine g_iconst (v := 1) hk dX0_hasBoth_30 (by decide) ?_
        refine g_goto (tgt := 35) hk dX0_hasBoth_31 (by decide) ?_
        exact g_iret hk hR rfl (Or.inr (⟨c3035, c3036, c3037, c3038, (by omega), (by omega), (by omega), (by omega), rfl, rfl⟩)) dX0_hasBoth_35
def wo_k225_X4_copyQuery : List Cond := [Cond.methodLink RX4 26 yX4_lengthOf, Cond.instanceMethod yX4_lengthOf, Cond.selects RX4 yX4_lengthOf yX4_lengthOf, Cond.initialized RX4, Cond.methodLink RX4 33 yX4_valueAt, Cond.instanceMethod yX4_valueAt, Cond.selects RX4 yX4_valueAt yX4_valueAt]
def wz_k225_X4_copyQuery : List Cond := .code yX4_copyQuery cX4_copyQuery 4 none :: (wo_k225_X4_copyQuery ++ (wz_k182_X4_lengthOf ++ (wz_k181_X4_valueAt ++ ([] : List Cond))))
theorem zg_k225_X4_copyQuery : ∀ w ∈ wz_k225_X4_copyQuery, goodWord w = true := zg_cons rfl (zg_app (by decide +kernel) (zg_app zg_k182_X4_lengthOf (zg_app zg_k181_X4_valueAt zg_nil)))
theorem zi_k225_X4_copyQuery : ∀ w ∈ wz_k225_X4_copyQuery, w ∈ lw_tbl := zi_cons zw_987 (zi_app (zi_cons zw_756 (zi_cons zw_757 (zi_cons zw_758 (zi_cons zw_108 (zi_cons zw_760 (zi_cons zw_761 (zi_cons zw_762 zi_nil))))))) (zi_app zi_k182_X4_lengthOf (zi_app zi_k181_X4_valueAt zi_nil)))
set_option maxHeartbeats 4000000 in
set_option maxRecDepth 100000 in
theorem k225_X4_copyQuery (l : Launch) (D : va_G) (zt : Nat × Nat × Nat × (Nat → Nat) × (Nat → Nat)) (q : Nat → Nat) (d : Nat → ClassId) (I : Nat → Int32) (A : Nat → Nat → Int32) (z1 : Int32) (hIv : IvX I A) : GM l D zt (tyX d) yX4_copyQuery wz_k225_X4_copyQuery ({ frames := 3, cells := 0, slots := 0, locals := 64 } : Room) [.ref (q 15), .int z1, .ref (q 39)] (wX q d I A) (fun v _ w' => ∃ (I' : Nat → Int32) (A' : Nat → Nat → Int32), Md [] I I' ∧ Md [21] A A' ∧ IvX I' A' ∧ v = none ∧ w' = wX q d I' A') 0 0 := by
  refine GM.of (cc := cX4_copyQuery) (maxL := 4) (ret := none) (own := RX4) (lv := [(0, .ref (q 15)), (1, .int z1), (2, .ref (q 39))]) (by decide) rfl rfl (Nat.le_of_ble_eq_true rfl) rfl (fun κ sz hk hR hN => ?_)
  refine g_iconst (v := 0) hk dX4_copyQuery_0 (by decide) ?_
  refine g_istore_n (lv' := [(3, .int 0), (0, .ref (q 15)), (1, .int z1), (2, .ref (q 39))]) hk dX4_copyQuery_1 (by decide) rfl ?_
  have lp3153 : ∀ (n3154 : Nat) (x3092 : Int32) (I3096 : Nat → Int32) (A3096 : Nat → Nat → Int32), (Md [] I I3096) → (Md [21] A A3096) → (IvX I3096 A3096) → (0 ≤ x3092.toInt) → (x3092.toInt ≤ 16) → (1 - x3092.toInt < (n3154 : Int)) → (0 < n3154) → GW κ 4 0 0 (wX q d I3096 A3096) 2 [(3, .int x3092), (0, .ref (q 15)), (1, .int z1), (2, .ref (q 39))] [] := by
    intro n3154
    induction n3154 with
    | zero =>
      intro x3092 I3096 A3096 hI3096 hA3096 hV3096 h3151 h3152 m3155 m3155z
      exact absurd m3155z (Nat.lt_irrefl 0)
    | succ n3154 ih =>
      intro x3092 I3096 A3096 hI3096 hA3096 hV3096 h3151 h3152 m3155 m3155z
      refine g_iload_n hk dX4_copyQuery_2 rfl ?_
      refine g_aload_n hk dX4_copyQuery_3 rfl ?_
      refine g_iload_n hk dX4_copyQuery_4 rfl ?_
      refine g_callV (n := 1) hk (k182_X4_lengthOf l D zt q d I3096 A3096 z1 hV3096) (SP.same _) (fun _ h => h) (gi_V (List.mem_cons_of_mem _ (List.mem_append_left _ (List.mem_of_getElem? (i := 0) rfl))) (List.mem_cons_of_mem _ (List.mem_append_left _ (List.mem_of_getElem? (i := 1) rfl))) (List.mem_cons_of_mem _ (List.mem_append_left _ (List.mem_of_getElem? (i := 2) rfl))) (List.mem_cons_of_mem _ (List.mem_append_left _ (List.mem_of_getElem? (i := 3) rfl))) (gi_sub (fun w h => (List.mem_cons_of_mem _ (List.mem_append_right _ (List.mem_append_left _ h)))) zg_k182_X4_lengthOf)) rfl rfl rfl (by decide +kernel) ⟨Nat.le_of_ble_eq_true rfl, Nat.le_of_ble_eq_true rfl⟩ 15 rfl rfl rfl rfl (Nat.le_of_ble_eq_true rfl) ⟨Nat.le_of_ble_eq_true rfl, Nat.le_of_ble_eq_true rfl⟩ dX4_copyQuery_5 (fun v ty' w' hp hk' => ?_)
      rcases hp with ⟨rfl, rfl⟩ | ⟨y3163, c3157, c3158, c3159, c3160, c3161, c3162, c3164, c3165, rfl, rfl⟩
      · skip
        show GW κ 4 0 0 (wX q d I3096 A3096) 8 [(3, .int x3092), (0, .ref (q 15)), (1, .int z1), (2, .ref (q 39))] [.int 0, .int x3092]
        refine g_icmp_ge (tgt := 32) (a := x3092.toInt) (b := 0) hk dX4_copyQuery_8 (by decide) rfl rfl (fun _ => ?_) (fun z9 => absurd (show 0 ≤ x3092.toInt from by omega) z9)
        exact g_vret hk hR ⟨I3096, A3096, (show Md [] I I3096 from (Md.tr Md.rf hI3096 rfl)), (show Md [21] A A3096 from (Md.tr Md.rf hA3096 rfl)), hV3096, rfl, rfl⟩ dX4_copyQuery_32
      · skip
        show GW κ 4 0 0 (wX q d I3096 A3096) 8 [(3, .int x3092), (0, .ref (q 15)), (1, .int z1), (2, .ref (q 39))] [.int y3163, .int x3092]
        refine g_icmp_ge (tgt := 32) (a := x3092.toInt) (b := y3163.toInt) hk dX4_copyQuery_8 (by decide) rfl rfl (fun c3166 => ?_) (fun c3166 => ?_)
        · skip
          exact g_vret hk hR ⟨I3096, A3096, (show Md [] I I3096 from (Md.tr Md.rf hI3096 rfl)), (show Md [21] A A3096 from (Md.tr Md.rf hA3096 rfl)), hV3096, rfl, rfl⟩ dX4_copyQuery_32
        · skip
          refine g_iload_n hk dX4_copyQuery_11 rfl ?_
          refine g_aload_n hk dX4_copyQuery_12 rfl ?_
          refine nX_21 hk dX4_copyQuery_13 ?_
          refine g_icmp_ge (tgt := 32) (a := x3092.toInt) (b := 16) hk dX4_copyQuery_14 (by decide) rfl rfl (fun z9 => absurd z9 (show ¬ (16 ≤ x3092.toInt) from by omega)) (fun _ => ?_)
          refine g_aload_n hk dX4_copyQuery_17 rfl ?_
          refine g_iload_n hk dX4_copyQuery_18 rfl ?_
          refine g_aload_n hk dX4_copyQuery_19 rfl ?_
          refine g_iload_n hk dX4_copyQuery_20 rfl ?_
          refine g_iload_n hk dX4_copyQuery_21 rfl ?_
          refine g_callV (n := 2) hk (k181_X4_valueAt l D zt q d I3096 A3096 z1 x3092 hV3096) (SP.same _) (fun _ h => h) (gi_V (List.mem_cons_of_mem _ (List.mem_append_left _ (List.mem_of_getElem? (i := 4) rfl))) (List.mem_cons_of_mem _ (List.mem_append_left _ (List.mem_of_getElem? (i := 5) rfl))) (List.mem_cons_of_mem _ (List.mem_append_left _ (List.mem_of_getElem? (i := 6) rfl))) (List.mem_cons_of_mem _ (List.mem_append_left _ (List.mem_of_getElem? (i := 3) rfl))) (gi_sub (fun w h => (List.mem_cons_of_mem _ (List.mem_append_right _ (List.mem_append_right _ (List.mem_append_left _ h))))) zg_k181_X4_valueAt)) rfl rfl rfl (by decide +kernel) ⟨Nat.le_of_ble_eq_true rfl, Nat.le_of_ble_eq_true rfl⟩ 15 rfl rfl rfl rfl (Nat.le_of_ble_eq_true rfl) ⟨Nat.le_of_ble_eq_true rfl, Nat.le_of_ble_eq_true rfl⟩ dX4_copyQuery_22 (fun v ty' w' hp hk' => ?_)
          obtain ⟨y3167, rfl, rfl⟩ := hp
          show GW κ 4 0 0 (wX q d I3096 A3096) 25 [(3, .int x3092), (0, .ref (q 15)), (1, .int z1), (2, .ref (q 39))] [.int y3167, .int x3092, .ref (q 39)]
          refine sX_21 (j := x3092.toNatClampNeg) hk (vp_in_iff.mpr ⟨by omega, by omega⟩) rfl dX4_copyQuery_25 ?_
          obtain ⟨y3168, ey3168⟩ : ∃ y : Int32, y = x3092 + Int32.ofInt 1 := ⟨_, rfl⟩
          have hy3168 : y3168.toInt = x3092.toInt + 1 := i32_add ey3168 rfl (by decide) (by omega) (by omega)
          refine g_iinc (v := y3168) (lv' := [(3, .int y3168), (0, .ref (q 15)), (1, .int z1), (2, .ref (q 39))]) hk 0 dX4_copyQuery_26 rfl ey3168.symm (by decide) rfl ?_
          refine g_goto (tgt := 2) hk dX4_copyQuery_29 (by decide) ?_
          exact g_lv (List.forall_mem_cons.mpr ⟨List.mem_of_getElem? (i := 0) rfl, (List.forall_mem_cons.mpr ⟨List.mem_of_getElem? (i := 1) rfl, (List.forall_mem_cons.mpr ⟨List.mem_of_getElem? (i := 2) rfl, (List.forall_mem_cons.mpr ⟨List.mem_of_getElem? (i := 3) rfl, (fun _ h => absurd h List.not_mem_nil)⟩)⟩)⟩)⟩) (ih y3168 I3096 (up3 A3096 21 (x3092.toNatClampNeg) y3167) (show Md [] I I3096 from Md.tr hI3096 (show Md [] I3096 I3096 from Md.rf) rfl) (show Md [21] A (up3 A3096 21 (x3092.toNatClampNeg) y3167) from Md.tr hA3096 (show Md [21] A3096 (up3 A3096 21 (x3092.toNatClampNeg) y3167) from (Md.up3 Md.rf rfl)) rfl) ⟨(IvX_f0 (I := I3096) (A := A3096) hV3096), (IvX_f18 (I := I3096) (A := A3096) hV3096), (IvX_f30 (I := I3096) (A := A3096) hV3096), (IvX_f31 (I := I3096) (A := A3096) hV3096), (IvX_a4 (I := I3096) (A := A3096) hV3096), (IvX_a9 (I := I3096) (A := A3096) hV3096), trivial⟩ (by omega) (by omega) (by omega) (by omega))
  have k3170 : (0 : Int32).toInt = 0 := rfl
  obtain ⟨n3169, n3169a, n3169b⟩ : ∃ n : Nat, 1 - 0 < (n : Int) ∧ 0 < n := ⟨((1 - 0 : Int)).toNat + 1, by omega, by omega⟩
  exact lp3153 n3169 0 I A Md.rf Md.rf hIv (by omega) (by omega) n3169a n3169b
def wo_k224_X0_openQuery : List Cond := [Cond.fieldLink RX0 22 "WarpDesk$Bench" "queries" "LWarpDesk$Queries;", Cond.methodLink RX0 36 yX4_lengthOf, Cond.instanceMethod yX4_lengthOf, Cond.selects RX4 yX4_lengthOf yX4_lengthOf, Cond.initialized RX4, Cond.methodLink RX0 62 yX0_begin, Cond.instanceMethod yX0_begin, Cond.selects RX0 yX0_begin yX0_begin, Cond.initialized RX0, Cond.fieldLink RX0 12 "WarpDesk$Bench" "fit" "LWarpDesk$Fit;", Cond.fieldLink RX0 65 "WarpDesk$Fit" "left" "[I", Cond.methodLink RX0 69 yX4_copyQuery, Cond.instanceMethod yX4_copyQuery, Cond.selects RX4 yX4_copyQuery yX4_copyQuery, Cond.fieldLink RX0 26 "WarpDesk$Bench" "settings" "LWarpDesk$Settings;", Cond.methodLink RX0 49 yX7_valueOf, Cond.instanceMethod yX7_valueOf, Cond.selects RX7 yX7_valueOf yX7_valueOf, Cond.initialized RX7, Cond.methodLink RX0 73 yX2_bringToLevel, Cond.instanceMethod yX2_bringToLevel, Cond.selects RX2 yX2_bringToLevel yX2_bringToLevel, Cond.initialized RX2]
def wz_k224_X0_openQuery : List Cond := .code yX0_openQuery cX0_openQuery 3 none :: (wo_k224_X0_openQuery ++ (wsX00 ++ (wsX20 ++ (wz_k182_X4_lengthOf ++ (wz_k214_X0_begin ++ (wz_k225_X4_copyQuery ++ (wz_k194_X7_valueOf ++ (wz_k217_X2_bringToLevel ++ ([] : List Cond)))))))))
theorem zg_k224_X0_openQuery : ∀ w ∈ wz_k224_X0_openQuery, goodWord w = true := zg_cons rfl (zg_app (by decide +kernel) (zg_app zgU_wsX00 (zg_app zgU_wsX20 (zg_app zg_k182_X4_lengthOf (zg_app zg_k214_X0_begin (zg_app zg_k225_X4_copyQuery (zg_app zg_k194_X7_valueOf (zg_app zg_k217_X2_bringToLevel zg_nil))))))))
theorem zi_k224_X0_openQuery : ∀ w ∈ wz_k224_X0_openQuery, w ∈ lw_tbl := zi_cons zw_983 (zi_app (zi_cons zw_376 (zi_cons zw_978 (zi_cons zw_757 (zi_cons zw_758 (zi_cons zw_108 (zi_cons zw_934 (zi_cons zw_936 (zi_cons zw_24 (zi_cons zw_111 (zi_cons zw_380 (zi_cons zw_335 (zi_cons zw_984 (zi_cons zw_985 (zi_cons zw_986 (zi_cons zw_378 (zi_cons zw_933 (zi_cons zw_786 (zi_cons zw_787 (zi_cons zw_107 (zi_cons zw_948 (zi_cons zw_949 (zi_cons zw_950 (zi_cons zw_112 zi_nil))))))))))))))))))))))) (zi_app inX0 (zi_app inX2 (zi_app zi_k182_X4_lengthOf (zi_app zi_k214_X0_begin (zi_app zi_k225_X4_copyQuery (zi_app zi_k194_X7_valueOf (zi_app zi_k217_X2_bringToLevel zi_nil))))))))
set_option maxHeartbeats 4000000 in
set_option maxRecDepth 100000 in
theorem k224_X0_openQuery (l : Launch) (D : va_G) (zt : Nat × Nat × Nat × (Nat → Nat) × (Nat → Nat)) (q : Nat → Nat) (d : Nat → ClassId) (I : Nat → Int32) (A : Nat → Nat → Int32) (z1 : Int32) (z2 : Int32) (hIv : IvX I A) : GM l D zt (tyX d) yX0_openQuery wz_k224_X0_openQuery ({ frames := 4, cells := 0, slots := 0, locals := 87 } : Room) [.ref (q 37), .int z1, .int z2] (wX q d I A) (fun v _ w' => ∃ (I' : Nat → Int32) (A' : Nat → Nat → Int32), Md [28, 30, 31, 32] I I' ∧ Md [21] A A' ∧ IvX I' A' ∧ v = none ∧ w' = wX q d I' A') 0 0 := by
  refine GM.of (cc := cX0_openQuery) (maxL := 3) (ret := none) (own := RX0) (lv := [(0, .ref (q 37)), (1, .int z1), (2, .int z2)]) (by decide) rfl rfl (Nat.le_of_ble_eq_true rfl) rfl (fun κ sz hk hR hN => ?_)
  have hin0 : ∀ w ∈ u_ws RX0 TX0 5, w ∈ wz_k224_X0_openQuery := fun w h => (List.mem_cons_of_mem _ (List.mem_append_right _ (List.mem_append_left _ h)))
  have hin2 : ∀ w ∈ u_ws RX2 TX2 10, w ∈ wz_k224_X0_openQuery := fun w h => (List.mem_cons_of_mem _ (List.mem_append_right _ (List.mem_append_right _ (List.mem_append_left _ h))))
  refine g_aload_n hk dX0_openQuery_0 rfl ?_
  refine g_aload_n hk dX0_openQuery_1 rfl ?_
  refine gX_r37_1 hk hin0 (List.mem_cons_of_mem _ (List.mem_append_left _ (List.mem_of_getElem? (i := 0) rfl))) dX0_openQuery_2 ?_
  refine g_iload_n hk dX0_openQuery_5 rfl ?_
  refine g_callV (n := 1) hk (k182_X4_lengthOf l D zt q d I A z1 hIv) (SP.same _) (fun _ h => h) (gi_V (List.mem_cons_of_mem _ (List.mem_append_left _ (List.mem_of_getElem? (i := 1) rfl))) (List.mem_cons_of_mem _ (List.mem_append_left _ (List.mem_of_getElem? (i := 2) rfl))) (List.mem_cons_of_mem _ (List.mem_append_left _ (List.mem_of_getElem? (i := 3) rfl))) (List.mem_cons_of_mem _ (List.mem_append_left _ (List.mem_of_getElem? (i := 4) rfl))) (gi_sub (fun w h => (List.mem_cons_of_mem _ (List.mem_append_right _ (List.mem_append_right _ (List.mem_append_right _ (List.mem_append_left _ h)))))) zg_k182_X4_lengthOf)) rfl rfl rfl (by decide +kernel) ⟨Nat.le_of_ble_eq_true rfl, Nat.le_of_ble_eq_true rfl⟩ 15 rfl rfl rfl rfl (Nat.le_of_ble_eq_true rfl) ⟨Nat.le_of_ble_eq_true rfl, Nat.le_of_ble_eq_true rfl⟩ dX0_openQuery_6 (fun v ty' w' hp hk' => ?_)
  rcases hp with ⟨rfl, rfl⟩ | ⟨y3086, c3080, c3081, c3082, c3083, c3084, c3085, c3087, c3088, rfl, rfl⟩
  · skip
    show GW κ 3 0 0 (wX q d I A) 9 [(0, .ref (q 37)), (1, .int z1), (2, .int z2)] [.int 0, .ref (q 37)]
    refine g_iload_n hk dX0_openQuery_9 rfl ?_
    have k3089 : (0 : Int32).toInt = 0 := rfl
    refine g_callV (n := 2) hk (k214_X0_begin l D zt q d I A 0 z2 hIv) (SP.same _) (fun _ h => h) (gi_V (List.mem_cons_of_mem _ (List.mem_append_left _ (List.mem_of_getElem? (i := 5) rfl))) (List.mem_cons_of_mem _ (List.mem_append_left _ (List.mem_of_getElem? (i := 6) rfl))) (List.mem_cons_of_mem _ (List.mem_append_left _ (List.mem_of_getElem? (i := 7) rfl))) (List.mem_cons_of_mem _ (List.mem_append_left _ (List.mem_of_getElem? (i := 8) rfl))) (gi_sub (fun w h => (List.mem_cons_of_mem _ (List.mem_append_right _ (List.mem_append_right _ (List.mem_append_right _ (List.mem_append_right _ (List.mem_append_left _ h))))))) zg_k214_X0_begin)) rfl rfl rfl (by decide +kernel) ⟨Nat.le_of_ble_eq_true rfl, Nat.le_of_ble_eq_true rfl⟩ 37 rfl rfl rfl rfl (Nat.le_of_ble_eq_true rfl) ⟨Nat.le_of_ble_eq_true rfl, Nat.le_of_ble_eq_true rfl⟩ dX0_openQuery_10 (fun v ty' w' hp hk' => ?_)
    obtain ⟨I3091, A3091, hI3091, hA3091, hV3091, rfl, rfl⟩ := hp
    show GW κ 3 0 0 (wX q d I3091 A3091) 13 [(0, .ref (q 37)), (1, .int z1), (2, .int z2)] []
    refine g_aload_n hk dX0_openQuery_13 rfl ?_
    refine gX_r37_1 hk hin0 (List.mem_cons_of_mem _ (List.mem_append_left _ (List.mem_of_getElem? (i := 0) rfl))) dX0_openQuery_14 ?_
    refine g_iload_n hk dX0_openQuery_17 rfl ?_
    refine g_aload_n hk dX0_openQuery_18 rfl ?_
    refine gX_r37_3 hk hin0 (List.mem_cons_of_mem _ (List.mem_append_left _ (List.mem_of_getElem? (i := 9) rfl))) dX0_openQuery_19 ?_
    refine gX_r38_0 hk hin2 (List.mem_cons_of_mem _ (List.mem_append_left _ (List.mem_of_getElem? (i := 10) rfl))) dX0_openQuery_22 ?_
    refine g_callV (n := 2) hk (k225_X4_copyQuery l D zt q d I3091 A3091 z1 hV3091) (SP.same _) (fun _ h => h) (gi_V (List.mem_cons_of_mem _ (List.mem_append_left _ (List.mem_of_getElem? (i := 11) rfl))) (List.mem_cons_of_mem _ (List.mem_append_left _ (List.mem_of_getElem? (i := 12) rfl))) (List.mem_cons_of_mem _ (List.mem_append_left _ (List.mem_of_getElem? (i := 13) rfl))) (List.mem_cons_of_mem _ (List.mem_append_left _ (List.mem_of_getElem? (i := 4) rfl))) (gi_sub (fun w h => (List.mem_cons_of_mem _ (List.mem_append_right _ (List.mem_append_right _ (List.mem_append_right _ (List.mem_append_right _ (List.mem_append_right _ (List.mem_append_left _ h)))))))) zg_k225_X4_copyQuery)) rfl rfl rfl (by decide +kernel) ⟨Nat.le_of_ble_eq_true rfl, Nat.le_of_ble_eq_true rfl⟩ 15 rfl rfl rfl rfl (Nat.le_of_ble_eq_true rfl) ⟨Nat.le_of_ble_eq_true rfl, Nat.le_of_ble_eq_true rfl⟩ dX0_openQuery_25 (fun v ty' w' hp hk' => ?_)
    obtain ⟨I3172, A3172, hI3172, hA3172, hV3172, rfl, rfl⟩ := hp
    show GW κ 3 0 0 (wX q d I3172 A3172) 28 [(0, .ref (q 37)), (1, .int z1), (2, .int z2)] []
    refine g_aload_n hk dX0_openQuery_28 rfl ?_
    refine gX_r37_3 hk hin0 (List.mem_cons_of_mem _ (List.mem_append_left _ (List.mem_of_getElem? (i := 9) rfl))) dX0_openQuery_29 ?_
    refine g_aload_n hk dX0_openQuery_32 rfl ?_
    refine gX_r37_3 hk hin0 (List.mem_cons_of_mem _ (List.mem_append_left _ (List.mem_of_getElem? (i := 9) rfl))) dX0_openQuery_33 ?_
    refine gX_r38_0 hk hin2 (List.mem_cons_of_mem _ (List.mem_append_left _ (List.mem_of_getElem? (i := 10) rfl))) dX0_openQuery_36 ?_
    refine g_aload_n hk dX0_openQuery_39 rfl ?_
    refine gX_r37_2 hk hin0 (List.mem_cons_of_mem _ (List.mem_append_left _ (List.mem_of_getElem? (i := 14) rfl))) dX0_openQuery_40 ?_
    refine g_iconst (v := 1) hk dX0_openQuery_43 (by decide) ?_
    have k3173 : (1 : Int32).toInt = 1 := rfl
    refine g_callV (n := 1) hk (k194_X7_valueOf l D zt q d I3172 A3172 1 hV3172) (SP.same _) (fun _ h => h) (gi_V (List.mem_cons_of_mem _ (List.mem_append_left _ (List.mem_of_getElem? (i := 15) rfl))) (List.mem_cons_of_mem _ (List.mem_append_left _ (List.mem_of_getElem? (i := 16) rfl))) (List.mem_cons_of_mem _ (List.mem_append_left _ (List.mem_of_getElem? (i := 17) rfl))) (List.mem_cons_of_mem _ (List.mem_append_left _ (List.mem_of_getElem? (i := 18) rfl))) (gi_sub (fun w h => (List.mem_cons_of_mem _ (List.mem_append_right _ (List.mem_append_right _ (List.mem_append_right _ (List.mem_append_right _ (List.mem_append_right _ (List.mem_append_right _ (List.mem_append_left _ h))))))))) zg_k194_X7_valueOf)) rfl rfl rfl (by decide +kernel) ⟨Nat.le_of_ble_eq_true rfl, Nat.le_of_ble_eq_true rfl⟩ 18 rfl rfl rfl rfl (Nat.le_of_ble_eq_true rfl) ⟨Nat.le_of_ble_eq_true rfl, Nat.le_of_ble_eq_true rfl⟩ dX0_openQuery_44 (fun v ty' w' hp hk' => ?_)
    obtain ⟨y3174, rfl, rfl⟩ := hp
    show GW κ 3 0 0 (wX q d I3172 A3172) 47 [(0, .ref (q 37)), (1, .int z1), (2, .int z2)] [.int y3174, .ref (q 39), .ref (q 38)]
    refine g_callV (n := 2) hk (k217_X2_bringToLevel l D zt q d I3172 A3172 y3174 hV3172) (SP.same _) (fun _ h => h) (gi_V (List.mem_cons_of_mem _ (List.mem_append_left _ (List.mem_of_getElem? (i := 19) rfl))) (List.mem_cons_of_mem _ (List.mem_append_left _ (List.mem_of_getElem? (i := 20) rfl))) (List.mem_cons_of_mem _ (List.mem_append_left _ (List.mem_of_getElem? (i := 21) rfl))) (List.mem_cons_of_mem _ (List.mem_append_left _ (List.mem_of_getElem? (i := 22) rfl))) (gi_sub (fun w h => (List.mem_cons_of_mem _ (List.mem_append_right _ (List.mem_append_right _ (List.mem_append_right _ (List.mem_append_right _ (List.mem_append_right _ (List.mem_append_right _ (List.mem_append_right _ (List.mem_append_left _ h)))))))))) zg_k217_X2_bringToLevel)) rfl rfl rfl (by decide +kernel) ⟨Nat.le_of_ble_eq_true rfl, Nat.le_of_ble_eq_true rfl⟩ 38 rfl rfl rfl rfl (Nat.le_of_ble_eq_true rfl) ⟨Nat.le_of_ble_eq_true rfl, Nat.le_of_ble_eq_true rfl⟩ dX0_openQuery_47 (fun v ty' w' hp hk' => ?_)
    obtain ⟨I3176, A3176, hI3176, hA3176, hV3176, rfl, rfl⟩ := hp
    show GW κ 3 0 0 (wX q d I3176 A3176) 50 [(0, .ref (q 37)), (1, .int z1), (2, .int z2)] []
    exact g_vret hk hR ⟨I3176, A3176, (show Md [28, 30, 31, 32] I I3176 from (Md.tr (Md.tr (Md.tr Md.rf hI3091 rfl) hI3172 rfl) hI3176 rfl)), (show Md [21] A A3176 from (Md.tr (Md.tr (Md.tr Md.rf hA3091 rfl) hA3172 rfl) hA3176 rfl)), hV3176, rfl, rfl⟩ dX0_openQuery_50
  · skip
    show GW κ 3 0 0 (wX q d I A) 9 [(0, .ref (q 37)), (1, .int z1), (2, .int z2)] [.int y3086, .ref (q 37)]
    refine g_iload_n hk dX0_openQuery_9 rfl ?_
    refine g_callV (n := 2) hk (k214_X0_begin l D zt q d I A y3086 z2 hIv) (SP.same _) (fun _ h => h) (gi_V (List.mem_cons_of_mem _ (List.mem_append_left _ (List.mem_of_getElem? (i := 5) rfl))) (List.mem_cons_of_mem _ (List.mem_append_left _ (List.mem_of_getElem? (i := 6) rfl))) (List.mem_cons_of_mem _ (List.mem_append_left _ (List.mem_of_getElem? (i := 7) rfl))) (List.mem_cons_of_mem _ (List.mem_append_left _ (List.mem_of_getElem? (i := 8) rfl))) (gi_sub (fun w h => (List.mem_cons_of_mem _ (List.mem_append_right _ (List.mem_append_right _ (List.mem_append_right _ (List.mem_append_right _ (List.mem_append_left _ h))))))) zg_k214_X0_begin)) rfl rfl rfl (by decide +kernel) ⟨Nat.le_of_ble_eq_true rfl, Nat.le_of_ble_eq_true rfl⟩ 37 rfl rfl rfl rfl (Nat.le_of_ble_eq_true rfl) ⟨Nat.le_of_ble_eq_true rfl, Nat.le_of_ble_eq_true rfl⟩ dX0_openQuery_10 (fun v ty' w' hp hk' => ?_)
    obtain ⟨I3178, A3178, hI3178, hA3178, hV3178, rfl, rfl⟩ := hp
    show GW κ 3 0 0 (wX q d I3178 A3178) 13 [(0, .ref (q 37)), (1, .int z1), (2, .int z2)] []
    refine g_aload_n hk dX0_openQuery_13 rfl ?_
    refine gX_r37_1 hk hin0 (List.mem_cons_of_mem _ (List.mem_append_left _ (List.mem_of_getElem? (i := 0) rfl))) dX0_openQuery_14 ?_
    refine g_iload_n hk dX0_openQuery_17 rfl ?_
    refine g_aload_n hk dX0_openQuery_18 rfl ?_
    refine gX_r37_3 hk hin0 (List.mem_cons_of_mem _ (List.mem_append_left _ (List.mem_of_getElem? (i := 9) rfl))) dX0_openQuery_19 ?_
    refine gX_r38_0 hk hin2 (List.mem_cons_of_mem _ (List.mem_append_left _ (List.mem_of_getElem? (i := 10) rfl))) dX0_openQuery_22 ?_
    refine g_callV (n := 2) hk (k225_X4_copyQuery l D zt q d I3178 A3178 z1 hV3178) (SP.same _) (fun _ h => h) (gi_V (List.mem_cons_of_mem _ (List.mem_append_left _ (List.mem_of_getElem? (i := 11) rfl))) (List.mem_cons_of_mem _ (List.mem_append_left _ (List.mem_of_getElem? (i := 12) rfl))) (List.mem_cons_of_mem _ (List.mem_append_left _ (List.mem_of_getElem? (i := 13) rfl))) (List.mem_cons_of_mem _ (List.mem_append_left _ (List.mem_of_getElem? (i := 4) rfl))) (gi_sub (fun w h => (List.mem_cons_of_mem _ (List.mem_append_right _ (List.mem_append_right _ (List.mem_append_right _ (List.mem_append_right _ (List.mem_append_right _ (List.mem_append_left _ h)))))))) zg_k225_X4_copyQuery)) rfl rfl rfl (by decide +kernel) ⟨Nat.le_of_ble_eq_true rfl, Nat.le_of_ble_eq_true rfl⟩ 15 rfl rfl rfl rfl (Nat.le_of_ble_eq_true rfl) ⟨Nat.le_of_ble_eq_true rfl, Nat.le_of_ble_eq_true rfl⟩ dX0_openQuery_25 (fun v ty' w' hp hk' => ?_)
    obtain ⟨I3180, A3180, hI3180, hA3180, hV3180, rfl, rfl⟩ := hp
    show GW κ 3 0 0 (wX q d I3180 A3180) 28 [(0, .ref (q 37)), (1, .int z1), (2, .int z2)] []
    refine g_aload_n hk dX0_openQuery_28 rfl ?_
    refine gX_r37_3 hk hin0 (List.mem_cons_of_mem _ (List.mem_append_left _ (List.mem_of_getElem? (i := 9) rfl))) dX0_openQuery_29 ?_
    refine g_aload_n hk dX0_openQuery_32 rfl ?_
    refine gX_r37_3 hk hin0 (List.mem_cons_of_mem _ (List.mem_append_left _ (List.mem_of_getElem? (i := 9) rfl))) dX0_openQuery_33 ?_
    refine gX_r38_0 hk hin2 (List.mem_cons_of_mem _ (List.mem_append_left _ (List.mem_of_getElem? (i := 10) rfl))) dX0_openQuery_36 ?_
    refine g_aload_n hk dX0_openQuery_39 rfl ?_
    refine gX_r37_2 hk hin0 (List.mem_cons_of_mem _ (List.mem_append_left _ (List.mem_of_getElem? (i := 14) rfl))) dX0_openQuery_40 ?_
    refine g_iconst (v := 1) hk dX0_openQuery_43 (by decide) ?_
    have k3181 : (1 : Int32).toInt = 1 := rfl
    refine g_callV (n := 1) hk (k194_X7_valueOf l D zt q d I3180 A3180 1 hV3180) (SP.same _) (fun _ h => h) (gi_V (List.mem_cons_of_mem _ (List.mem_append_left _ (List.mem_of_getElem? (i := 15) rfl))) (List.mem_cons_of_mem _ (List.mem_append_left _ (List.mem_of_getElem? (i := 16) rfl))) (List.mem_cons_of_mem _ (List.mem_append_left _ (List.mem_of_getElem? (i := 17) rfl))) (List.mem_cons_of_mem _ (List.mem_append_left _ (List.mem_of_getElem? (i := 18) rfl))) (gi_sub (fun w h => (List.mem_cons_of_mem _ (List.mem_append_right _ (List.mem_append_right _ (List.mem_append_right _ (List.mem_append_right _ (List.mem_append_right _ (List.mem_append_right _ (List.mem_append_left _ h))))))))) zg_k194_X7_valueOf)) rfl rfl rfl (by decide +kernel) ⟨Nat.le_of_ble_eq_true rfl, Nat.le_of_ble_eq_true rfl⟩ 18 rfl rfl rfl rfl (Nat.le_of_ble_eq_true rfl) ⟨Nat.le_of_ble_eq_true rfl, Nat.le_of_ble_eq_true rfl⟩ dX0_openQuery_44 (fun v ty' w' hp hk' => ?_)
    obtain ⟨y3182, rfl, rfl⟩ := hp
    show GW κ 3 0 0 (wX q d I3180 A3180) 47 [(0, .ref (q 37)), (1, .int z1), (2, .int z2)] [.int y3182, .ref (q 39), .ref (q 38)]
    refine g_callV (n := 2) hk (k217_X2_bringToLevel l D zt q d I3180 A3180 y3182 hV3180) (SP.same _) (fun _ h => h) (gi_V (List.mem_cons_of_mem _ (List.mem_append_left _ (List.mem_of_getElem? (i := 19) rfl))) (List.mem_cons_of_mem _ (List.mem_append_left _ (List.mem_of_getElem? (i := 20) rfl))) (List.mem_cons_of_mem _ (List.mem_append_left _ (List.mem_of_getElem? (i := 21) rfl))) (List.mem_cons_of_mem _ (List.mem_append_left _ (List.mem_of_getElem? (i := 22) rfl))) (gi_sub (fun w h => (List.mem_cons_of_mem _ (List.mem_append_right _ (List.mem_append_right _ (List.mem_append_right _ (List.mem_append_right _ (List.mem_append_right _ (List.mem_append_right _ (List.mem_append_right _ (List.mem_append_left _ h)))))))))) zg_k217_X2_bringToLevel)) rfl rfl rfl (by decide +kernel) ⟨Nat.le_of_ble_eq_true rfl, Nat.le_of_ble_eq_true rfl⟩ 38 rfl rfl rfl rfl (Nat.le_of_ble_eq_true rfl) ⟨Nat.le_of_ble_eq_true rfl, Nat.le_of_ble_eq_true rfl⟩ dX0_openQuery_47 (fun v ty' w' hp hk' => ?_)
    obtain ⟨I3184, A3184, hI3184, hA3184, hV3184, rfl, rfl⟩ := hp
    show GW κ 3 0 0 (wX q d I3184 A3184) 50 [(0, .ref (q 37)), (1, .int z1), (2, .int z2)] []
    exact g_vret hk hR ⟨I3184, A3184, (show Md [28, 30, 31, 32] I I3184 from (Md.tr (Md.tr (Md.tr Md.rf hI3178 rfl) hI3180 rfl) hI3184 rfl)), (show Md [21] A A3184 from (Md.tr (Md.tr (Md.tr Md.rf hA3178 rfl) hA3180 rfl) hA3184 rfl)), hV3184, rfl, rfl⟩ dX0_openQuery_50
def wo_k227_X6_copyWindow : List Cond := [Cond.methodLink RX6 33 yX6_valueAt, Cond.instanceMethod yX6_valueAt, Cond.selects RX6 yX6_valueAt yX6_valueAt, Cond.initialized RX6]
def wz_k227_X6_copyWindow : List Cond := .code yX6_copyWindow cX6_copyWindow 5 none :: (wo_k227_X6_copyWindow ++ (wz_k179_X6_valueAt ++ ([] : List Cond)))
theorem zg_k227_X6_copyWindow : ∀ w ∈ wz_k227_X6_copyWindow, goodWord w = true := zg_cons rfl (zg_app (by decide +kernel) (zg_app zg_k179_X6_valueAt zg_nil))
theorem zi_k227_X6_copyWindow : ∀ w ∈ wz_k227_X6_copyWindow, w ∈ lw_tbl := zi_cons zw_947 (zi_app (zi_cons zw_843 (zi_cons zw_807 (zi_cons zw_808 (zi_cons zw_109 zi_nil)))) (zi_app zi_k179_X6_valueAt zi_nil))
set_option maxHeartbeats 4000000 in
set_option maxRecDepth 100000 in
theorem k227_X6_copyWindow (l : Launch) (D : va_G) (zt : Nat × Nat × Nat × (Nat → Nat) × (Nat → Nat)) (q : Nat → Nat) (d : Nat → ClassId) (I : Nat → Int32) (A : Nat → Nat → Int32) (z1 : Int32) (z2 : Int32) (hIv : IvX I A) : GM l D zt (tyX d) yX6_copyWindow wz_k227_X6_copyWindow ({ frames := 1, cells := 0, slots := 0, locals := 21 } : Room) [.ref (q 13), .int z1, .int z2, .ref (q 40)] (wX q d I A) (fun v _ w' => ∃ (I' : Nat → Int32) (A' : Nat → Nat → Int32), Md [] I I' ∧ Md [22] A A' ∧ IvX I' A' ∧ v = none ∧ w' = wX q d I' A') 0 0 := by
  refine GM.of (cc := cX6_copyWindow) (maxL := 5) (ret := none) (own := RX6) (lv := [(0, .ref (q 13)), (1, .int z1), (2, .int z2), (3, .ref (q 40))]) (by decide) rfl rfl (Nat.le_of_ble_eq_true rfl) rfl (fun κ sz hk hR hN => ?_)
  refine g_iconst (v := 0) hk dX6_copyWindow_0 (by decide) ?_
  refine g_istore (lv' := [(4, .int 0), (0, .ref (q 13)), (1, .int z1), (2, .int z2), (3, .ref (q 40))]) hk dX6_copyWindow_1 (by decide) rfl ?_
  have lp3221 : ∀ (n3222 : Nat) (x3187 : Int32) (I3192 : Nat → Int32) (A3192 : Nat → Nat → Int32), (Md [] I I3192) → (Md [22] A A3192) → (IvX I3192 A3192) → (0 ≤ x3187.toInt) → (x3187.toInt ≤ 16) → (z2.toInt + 1 - x3187.toInt < (n3222 : Int)) → (0 < n3222) → GW κ 5 0 0 (wX q d I3192 A3192) 3 [(4, .int x3187), (0, .ref (q 13)), (1, .int z1), (2, .int z2), (3, .ref (q 40))] [] := by
    intro n3222
    induction n3222 with
    | zero =>
      intro x3187 I3192 A3192 hI3192 hA3192 hV3192 h3219 h3220 m3223 m3223z
      exact absurd m3223z (Nat.lt_irrefl 0)
    | succ n3222 ih =>
      intro x3187 I3192 A3192 hI3192 hA3192 hV3192 h3219 h3220 m3223 m3223z
      refine g_iload hk dX6_copyWindow_3 rfl ?_
      refine g_iload_n hk dX6_copyWindow_5 rfl ?_
      have b3224l := Int32.le_toInt z2
      have b3224h := Int32.toInt_lt z2
      refine g_icmp_ge (tgt := 34) (a := x3187.toInt) (b := z2.toInt) hk dX6_copyWindow_6 (by decide) rfl rfl (fun c3225 => ?_) (fun c3225 => ?_)
      · skip
        exact g_vret hk hR ⟨I3192, A3192, (show Md [] I I3192 from (Md.tr Md.rf hI3192 rfl)), (show Md [22] A A3192 from (Md.tr Md.rf hA3192 rfl)), hV3192, rfl, rfl⟩ dX6_copyWindow_34
      · skip
        refine g_iload hk dX6_copyWindow_9 rfl ?_
        refine g_aload_n hk dX6_copyWindow_11 rfl ?_
        refine nX_22 hk dX6_copyWindow_12 ?_
        refine g_icmp_ge (tgt := 34) (a := x3187.toInt) (b := 16) hk dX6_copyWindow_13 (by decide) rfl rfl (fun c3226 => ?_) (fun c3226 => ?_)
        · skip
          exact g_vret hk hR ⟨I3192, A3192, (show Md [] I I3192 from (Md.tr Md.rf hI3192 rfl)), (show Md [22] A A3192 from (Md.tr Md.rf hA3192 rfl)), hV3192, rfl, rfl⟩ dX6_copyWindow_34
        · skip
          refine g_aload_n hk dX6_copyWindow_16 rfl ?_
          refine g_iload hk dX6_copyWindow_17 rfl ?_
          refine g_aload_n hk dX6_copyWindow_19 rfl ?_
          refine g_iload_n hk dX6_copyWindow_20 rfl ?_
          refine g_iload hk dX6_copyWindow_21 rfl ?_
          have b3227l := Int32.le_toInt z1
          have b3227h := Int32.toInt_lt z1
          refine g_iadd hk dX6_copyWindow_23 ?_
          refine g_topi (fun y3228 ey3228 => ?_)
          refine g_callV (n := 1) hk (k179_X6_valueAt l D zt q d I3192 A3192 y3228 hV3192) (SP.same _) (fun _ h => h) (gi_V (List.mem_cons_of_mem _ (List.mem_append_left _ (List.mem_of_getElem? (i := 0) rfl))) (List.mem_cons_of_mem _ (List.mem_append_left _ (List.mem_of_getElem? (i := 1) rfl))) (List.mem_cons_of_mem _ (List.mem_append_left _ (List.mem_of_getElem? (i := 2) rfl))) (List.mem_cons_of_mem _ (List.mem_append_left _ (List.mem_of_getElem? (i := 3) rfl))) (gi_sub (fun w h => (List.mem_cons_of_mem _ (List.mem_append_right _ (List.mem_append_left _ h)))) zg_k179_X6_valueAt)) rfl rfl rfl (by decide +kernel) ⟨Nat.le_of_ble_eq_true rfl, Nat.le_of_ble_eq_true rfl⟩ 13 rfl rfl rfl rfl (Nat.le_of_ble_eq_true rfl) ⟨Nat.le_of_ble_eq_true rfl, Nat.le_of_ble_eq_true rfl⟩ dX6_copyWindow_24 (fun v ty' w' hp hk' => ?_)
          obtain ⟨y3229, rfl, rfl⟩ := hp
          show GW κ 5 0 0 (wX q d I3192 A3192) 27 [(4, .int x3187), (0, .ref (q 13)), (1, .int z1), (2, .int z2), (3, .ref (q 40))] [.int y3229, .int x3187, .ref (q 40)]
          refine sX_22 (j := x3187.toNatClampNeg) hk (vp_in_iff.mpr ⟨by omega, by omega⟩) rfl dX6_copyWindow_27 ?_
          obtain ⟨y3230, ey3230⟩ : ∃ y : Int32, y = x3187 + Int32.ofInt 1 := ⟨_, rfl⟩
          have hy3230 : y3230.toInt = x3187.toInt + 1 := i32_add ey3230 rfl (by decide) (by omega) (by omega)
          refine g_iinc (v := y3230) (lv' := [(4, .int y3230), (0, .ref (q 13)), (1, .int z1), (2, .int z2), (3, .ref (q 40))]) hk 0 dX6_copyWindow_28 rfl ey3230.symm (by decide) rfl ?_
          refine g_goto (tgt := 3) hk dX6_copyWindow_31 (by decide) ?_
          exact g_lv (List.forall_mem_cons.mpr ⟨List.mem_of_getElem? (i := 0) rfl, (List.forall_mem_cons.mpr ⟨List.mem_of_getElem? (i := 1) rfl, (List.forall_mem_cons.mpr ⟨List.mem_of_getElem? (i := 2) rfl, (List.forall_mem_cons.mpr ⟨List.mem_of_getElem? (i := 3) rfl, (List.forall_mem_cons.mpr ⟨List.mem_of_getElem? (i := 4) rfl, (fun _ h => absurd h List.not_mem_nil)⟩)⟩)⟩)⟩)⟩) (ih y3230 I3192 (up3 A3192 22 (x3187.toNatClampNeg) y3229) (show Md [] I I3192 from Md.tr hI3192 (show Md [] I3192 I3192 from Md.rf) rfl) (show Md [22] A (up3 A3192 22 (x3187.toNatClampNeg) y3229) from Md.tr hA3192 (show Md [22] A3192 (up3 A3192 22 (x3187.toNatClampNeg) y3229) from (Md.up3 Md.rf rfl)) rfl) ⟨(IvX_f0 (I := I3192) (A := A3192) hV3192), (IvX_f18 (I := I3192) (A := A3192) hV3192), (IvX_f30 (I := I3192) (A := A3192) hV3192), (IvX_f31 (I := I3192) (A := A3192) hV3192), (IvX_a4 (I := I3192) (A := A3192) hV3192), (IvX_a9 (I := I3192) (A := A3192) hV3192), trivial⟩ (by omega) (by omega) (by omega) (by omega))
  have k3232 : (0 : Int32).toInt = 0 := rfl
  obtain ⟨n3231, n3231a, n3231b⟩ : ∃ n : Nat, z2.toInt + 1 - 0 < (n : Int) ∧ 0 < n := ⟨((z2.toInt + 1 - 0 : Int)).toNat + 1, by omega, by omega⟩
  exact lp3221 n3231 0 I A Md.rf Md.rf hIv (by omega) (by omega) n3231a n3231b
def wo_k229_X2_spreadAll : List Cond := [Cond.fieldLink RX2 24 "WarpDesk$Fit" "length" "I", Cond.methodLink RX2 28 Lib.Math.min.name, Cond.static Lib.Math.min.name, Cond.initialized "java/lang/Math", Cond.code Lib.Math.min.name Lib.Math.min.code 2 (some .int), Cond.methodLink RX2 34 Lib.Math.max.name, Cond.static Lib.Math.max.name, Cond.code Lib.Math.max.name Lib.Math.max.code 2 (some .int)]
def wz_k229_X2_spreadAll : List Cond := .code yX2_spreadAll cX2_spreadAll 6 none :: (wo_k229_X2_spreadAll ++ (wsX20 ++ ([] : List Cond)))
theorem zg_k229_X2_spreadAll : ∀ w ∈ wz_k229_X2_spreadAll, goodWord w = true := zg_cons rfl (zg_app (by decide +kernel) (zg_app zgU_wsX20 zg_nil))
theorem zi_k229_X2_spreadAll : ∀ w ∈ wz_k229_X2_spreadAll, w ∈ lw_tbl := zi_cons zw_964 (zi_app (zi_cons zw_343 (zi_cons zw_942 (zi_cons zw_829 (zi_cons zw_120 (zi_cons zw_830 (zi_cons zw_943 (zi_cons zw_920 (zi_cons zw_921 zi_nil)))))))) (zi_app inX2 zi_nil))
set_option maxHeartbeats 4000000 in
set_option maxRecDepth 100000 in
theorem k229_X2_spreadAll (l : Launch) (D : va_G) (zt : Nat × Nat × Nat × (Nat → Nat) × (Nat → Nat)) (q : Nat → Nat) (d : Nat → ClassId) (I : Nat → Int32) (A : Nat → Nat → Int32) (hIv : IvX I A) : GM l D zt (tyX d) yX2_spreadAll wz_k229_X2_spreadAll ({ frames := 1, cells := 0, slots := 0, locals := 13 } : Room) [.ref (q 38), .ref (q 40)] (wX q d I A) (fun v _ w' => ∃ (I' : Nat → Int32) (A' : Nat → Nat → Int32), Md [] I I' ∧ Md [22] A A' ∧ IvX I' A' ∧ v = none ∧ w' = wX q d I' A') 0 0 := by
  refine GM.of (cc := cX2_spreadAll) (maxL := 6) (ret := none) (own := RX2) (lv := [(0, .ref (q 38)), (1, .ref (q 40))]) (by decide) rfl rfl (Nat.le_of_ble_eq_true rfl) rfl (fun κ sz hk hR hN => ?_)
  have hin2 : ∀ w ∈ u_ws RX2 TX2 10, w ∈ wz_k229_X2_spreadAll := fun w h => (List.mem_cons_of_mem _ (List.mem_append_right _ (List.mem_append_left _ h)))
  refine g_aload_n hk dX2_spreadAll_0 rfl ?_
  refine g_iconst (v := 0) hk dX2_spreadAll_1 (by decide) ?_
  refine lX_22 (v := (A 22 0)) hk (vp_in_iff.mpr ⟨by decide, by decide⟩) rfl dX2_spreadAll_2 ?_
  refine g_istore_n (lv' := [(2, .int (A 22 0)), (0, .ref (q 38)), (1, .ref (q 40))]) hk dX2_spreadAll_3 (by decide) rfl ?_
  refine g_aload_n hk dX2_spreadAll_4 rfl ?_
  refine g_iconst (v := 0) hk dX2_spreadAll_5 (by decide) ?_
  refine lX_22 (v := (A 22 0)) hk (vp_in_iff.mpr ⟨by decide, by decide⟩) rfl dX2_spreadAll_6 ?_
  refine g_istore_n (lv' := [(3, .int (A 22 0)), (2, .int (A 22 0)), (0, .ref (q 38)), (1, .ref (q 40))]) hk dX2_spreadAll_7 (by decide) rfl ?_
  refine g_iconst (v := 1) hk dX2_spreadAll_8 (by decide) ?_
  refine g_istore (lv' := [(4, .int 1), (3, .int (A 22 0)), (2, .int (A 22 0)), (0, .ref (q 38)), (1, .ref (q 40))]) hk dX2_spreadAll_9 (by decide) rfl ?_
  have lp3536 : ∀ (n3537 : Nat) (x3242 : Int32) (x3243 : Int32) (x3244 : Int32), (1 ≤ x3242.toInt) → (x3242.toInt ≤ 16) → (17 - x3242.toInt < (n3537 : Int)) → (0 < n3537) → GW κ 6 0 0 (wX q d I A) 11 [(4, .int x3242), (3, .int x3243), (2, .int x3244), (0, .ref (q 38)), (1, .ref (q 40))] [] := by
    intro n3537
    induction n3537 with
    | zero =>
      intro x3242 x3243 x3244 h3534 h3535 m3538 m3538z
      exact absurd m3538z (Nat.lt_irrefl 0)
    | succ n3537 ih =>
      intro x3242 x3243 x3244 h3534 h3535 m3538 m3538z
      refine g_iload hk dX2_spreadAll_11 rfl ?_
      refine g_aload_n hk dX2_spreadAll_13 rfl ?_
      refine gX_i30 (v := (I 30)) hk hin2 (List.mem_cons_of_mem _ (List.mem_append_left _ (List.mem_of_getElem? (i := 0) rfl))) dX2_spreadAll_14 rfl ?_
      have f3539 := IvX_f30 hIv
      refine g_icmp_ge (tgt := 44) (a := x3242.toInt) (b := (I 30).toInt) hk dX2_spreadAll_17 (by decide) rfl rfl (fun c3540 => ?_) (fun c3540 => ?_)
      · skip
        refine g_iload_n hk dX2_spreadAll_44 rfl ?_
        refine g_iload_n hk dX2_spreadAll_45 rfl ?_
        have b3541l := Int32.le_toInt x3243
        have b3541h := Int32.toInt_lt x3243
        have b3542l := Int32.le_toInt x3244
        have b3542h := Int32.toInt_lt x3244
        refine g_isub hk dX2_spreadAll_46 ?_
        refine g_topi (fun y3543 ey3543 => ?_)
        have hy3543 := i32_sub0 ey3543
        refine g_istore (lv' := [(4, .int y3543), (3, .int x3243), (2, .int x3244), (0, .ref (q 38)), (1, .ref (q 40))]) hk dX2_spreadAll_47 (by decide) rfl ?_
        refine g_iconst (v := 0) hk dX2_spreadAll_49 (by decide) ?_
        refine g_istore (lv' := [(5, .int 0), (4, .int y3543), (3, .int x3243), (2, .int x3244), (0, .ref (q 38)), (1, .ref (q 40))]) hk dX2_spreadAll_50 (by decide) rfl ?_
        have lp3595 : ∀ (n3596 : Nat) (x3544 : Int32) (I3550 : Nat → Int32) (A3550 : Nat → Nat → Int32), (Md [] I I3550) → (Md [22] A A3550) → (IvX I3550 A3550) → (0 ≤ x3544.toInt) → (x3544.toInt ≤ 16) → (17 - x3544.toInt < (n3596 : Int)) → (0 < n3596) → GW κ 6 0 0 (wX q d I3550 A3550) 52 [(5, .int x3544), (4, .int y3543), (3, .int x3243), (2, .int x3244), (0, .ref (q 38)), (1, .ref (q 40))] [] := by
          intro n3596
          induction n3596 with
          | zero =>
            intro x3544 I3550 A3550 hI3550 hA3550 hV3550 h3593 h3594 m3597 m3597z
            exact absurd m3597z (Nat.lt_irrefl 0)
          | succ n3596 ih =>
            intro x3544 I3550 A3550 hI3550 hA3550 hV3550 h3593 h3594 m3597 m3597z
            refine g_iload hk dX2_spreadAll_52 rfl ?_
            refine g_aload_n hk dX2_spreadAll_54 rfl ?_
            refine gX_i30 (v := (I 30)) hk hin2 (List.mem_cons_of_mem _ (List.mem_append_left _ (List.mem_of_getElem? (i := 0) rfl))) dX2_spreadAll_55 (hI3550 30 rfl) ?_
            refine g_icmp_ge (tgt := 93) (a := x3544.toInt) (b := (I 30).toInt) hk dX2_spreadAll_58 (by decide) rfl rfl (fun c3598 => ?_) (fun c3598 => ?_)
            · skip
              exact g_vret hk hR ⟨I3550, A3550, (show Md [] I I3550 from (Md.tr Md.rf hI3550 rfl)), (show Md [22] A A3550 from (Md.tr Md.rf hA3550 rfl)), hV3550, rfl, rfl⟩ dX2_spreadAll_93
            · skip
              refine g_aload_n hk dX2_spreadAll_61 rfl ?_
              refine g_iload hk dX2_spreadAll_62 rfl ?_
              refine g_iload hk dX2_spreadAll_64 rfl ?_
              have b3599l := Int32.le_toInt y3543
              have b3599h := Int32.toInt_lt y3543
              refine g_if_ne (tgt := 73) (a := y3543.toInt) hk dX2_spreadAll_66 (by decide) rfl (fun c3600 => ?_) (fun c3600 => ?_)
              · skip
                refine g_sipush (v := 1000) hk dX2_spreadAll_73 (by decide) ?_
                refine g_aload_n hk dX2_spreadAll_76 rfl ?_
                refine g_iload hk dX2_spreadAll_77 rfl ?_
                refine lX_22 (v := (A3550 22 x3544.toNatClampNeg)) hk (vp_in_iff.mpr ⟨by omega, by omega⟩) rfl dX2_spreadAll_79 ?_
                refine g_iload_n hk dX2_spreadAll_80 rfl ?_
                have b3601l := Int32.le_toInt (A3550 22 x3544.toNatClampNeg)
                have b3601h := Int32.toInt_lt (A3550 22 x3544.toNatClampNeg)
                refine g_isub hk dX2_spreadAll_81 ?_
                refine g_topi (fun y3602 ey3602 => ?_)
                have hy3602 := i32_sub0 ey3602
                have b3603l := Int32.le_toInt y3602
                have b3603h := Int32.toInt_lt y3602
                refine g_imul hk dX2_spreadAll_82 ?_
                refine g_topi (fun y3604 ey3604 => ?_)
                refine g_iload hk dX2_spreadAll_83 rfl ?_
                refine g_idiv hk dX2_spreadAll_85 (i32_ne0 (by omega)) ?_
                refine g_topi (fun y3605 ey3605 => ?_)
                refine sX_22 (j := x3544.toNatClampNeg) hk (vp_in_iff.mpr ⟨by omega, by omega⟩) rfl dX2_spreadAll_86 ?_
                obtain ⟨y3606, ey3606⟩ : ∃ y : Int32, y = x3544 + Int32.ofInt 1 := ⟨_, rfl⟩
                have hy3606 : y3606.toInt = x3544.toInt + 1 := i32_add ey3606 rfl (by decide) (by omega) (by omega)
                refine g_iinc (v := y3606) (lv' := [(5, .int y3606), (4, .int y3543), (3, .int x3243), (2, .int x3244), (0, .ref (q 38)), (1, .ref (q 40))]) hk 0 dX2_spreadAll_87 rfl ey3606.symm (by decide) rfl ?_
                refine g_goto (tgt := 52) hk dX2_spreadAll_90 (by decide) ?_
                exact g_lv (List.forall_mem_cons.mpr ⟨List.mem_of_getElem? (i := 0) rfl, (List.forall_mem_cons.mpr ⟨List.mem_of_getElem? (i := 1) rfl, (List.forall_mem_cons.mpr ⟨List.mem_of_getElem? (i := 2) rfl, (List.forall_mem_cons.mpr ⟨List.mem_of_getElem? (i := 3) rfl, (List.forall_mem_cons.mpr ⟨List.mem_of_getElem? (i := 4) rfl, (List.forall_mem_cons.mpr ⟨List.mem_of_getElem? (i := 5) rfl, (fun _ h => absurd h List.not_mem_nil)⟩)⟩)⟩)⟩)⟩)⟩) (ih y3606 I3550 (up3 A3550 22 (x3544.toNatClampNeg) y3605) (show Md [] I I3550 from Md.tr hI3550 (show Md [] I3550 I3550 from Md.rf) rfl) (show Md [22] A (up3 A3550 22 (x3544.toNatClampNeg) y3605) from Md.tr hA3550 (show Md [22] A3550 (up3 A3550 22 (x3544.toNatClampNeg) y3605) from (Md.up3 Md.rf rfl)) rfl) ⟨(IvX_f0 (I := I3550) (A := A3550) hV3550), (IvX_f18 (I := I3550) (A := A3550) hV3550), (IvX_f30 (I := I3550) (A := A3550) hV3550), (IvX_f31 (I := I3550) (A := A3550) hV3550), (IvX_a4 (I := I3550) (A := A3550) hV3550), (IvX_a9 (I := I3550) (A := A3550) hV3550), trivial⟩ (by omega) (by omega) (by omega) (by omega))
              · skip
                refine g_iconst (v := 0) hk dX2_spreadAll_69 (by decide) ?_
                refine g_goto (tgt := 86) hk dX2_spreadAll_70 (by decide) ?_
                have k3607 : (0 : Int32).toInt = 0 := rfl
                refine sX_22 (j := x3544.toNatClampNeg) hk (vp_in_iff.mpr ⟨by omega, by omega⟩) rfl dX2_spreadAll_86 ?_
                obtain ⟨y3608, ey3608⟩ : ∃ y : Int32, y = x3544 + Int32.ofInt 1 := ⟨_, rfl⟩
                have hy3608 : y3608.toInt = x3544.toInt + 1 := i32_add ey3608 rfl (by decide) (by omega) (by omega)
                refine g_iinc (v := y3608) (lv' := [(5, .int y3608), (4, .int y3543), (3, .int x3243), (2, .int x3244), (0, .ref (q 38)), (1, .ref (q 40))]) hk 0 dX2_spreadAll_87 rfl ey3608.symm (by decide) rfl ?_
                refine g_goto (tgt := 52) hk dX2_spreadAll_90 (by decide) ?_
                exact g_lv (List.forall_mem_cons.mpr ⟨List.mem_of_getElem? (i := 0) rfl, (List.forall_mem_cons.mpr ⟨List.mem_of_getElem? (i := 1) rfl, (List.forall_mem_cons.mpr ⟨List.mem_of_getElem? (i := 2) rfl, (List.forall_mem_cons.mpr ⟨List.mem_of_getElem? (i := 3) rfl, (List.forall_mem_cons.mpr ⟨List.mem_of_getElem? (i := 4) rfl, (List.forall_mem_cons.mpr ⟨List.mem_of_getElem? (i := 5) rfl, (fun _ h => absurd h List.not_mem_nil)⟩)⟩)⟩)⟩)⟩)⟩) (ih y3608 I3550 (up3 A3550 22 (x3544.toNatClampNeg) 0) (show Md [] I I3550 from Md.tr hI3550 (show Md [] I3550 I3550 from Md.rf) rfl) (show Md [22] A (up3 A3550 22 (x3544.toNatClampNeg) 0) from Md.tr hA3550 (show Md [22] A3550 (up3 A3550 22 (x3544.toNatClampNeg) 0) from (Md.up3 Md.rf rfl)) rfl) ⟨(IvX_f0 (I := I3550) (A := A3550) hV3550), (IvX_f18 (I := I3550) (A := A3550) hV3550), (IvX_f30 (I := I3550) (A := A3550) hV3550), (IvX_f31 (I := I3550) (A := A3550) hV3550), (IvX_a4 (I := I3550) (A := A3550) hV3550), (IvX_a9 (I := I3550) (A := A3550) hV3550), trivial⟩ (by omega) (by omega) (by omega) (by omega))
        have k3610 : (0 : Int32).toInt = 0 := rfl
        obtain ⟨n3609, n3609a, n3609b⟩ : ∃ n : Nat, 17 - 0 < (n : Int) ∧ 0 < n := ⟨((17 - 0 : Int)).toNat + 1, by omega, by omega⟩
        exact lp3595 n3609 0 I A Md.rf Md.rf hIv (by omega) (by omega) n3609a n3609b
      · skip
        refine g_iload_n hk dX2_spreadAll_20 rfl ?_
        refine g_aload_n hk dX2_spreadAll_21 rfl ?_
        refine g_iload hk dX2_spreadAll_22 rfl ?_
        refine lX_22 (v := (A 22 x3242.toNatClampNeg)) hk (vp_in_iff.mpr ⟨by omega, by omega⟩) rfl dX2_spreadAll_24 ?_
        have b3611l := Int32.le_toInt (A 22 x3242.toNatClampNeg)
        have b3611h := Int32.toInt_lt (A 22 x3242.toNatClampNeg)
        have b3612l := Int32.le_toInt x3244
        have b3612h := Int32.toInt_lt x3244
        refine g_mmin hk (List.mem_cons_of_mem _ (List.mem_append_left _ (List.mem_of_getElem? (i := 1) rfl))) (List.mem_cons_of_mem _ (List.mem_append_left _ (List.mem_of_getElem? (i := 2) rfl))) (List.mem_cons_of_mem _ (List.mem_append_left _ (List.mem_of_getElem? (i := 3) rfl))) (List.mem_cons_of_mem _ (List.mem_append_left _ (List.mem_of_getElem? (i := 4) rfl))) (Nat.le_of_ble_eq_true rfl) (Nat.le_of_ble_eq_true rfl) (Nat.le_of_ble_eq_true rfl) (Nat.le_of_ble_eq_true rfl) dX2_spreadAll_25 ?_
        refine g_topi (fun y3613 ey3613 => ?_)
        have hy3613 := i32_min ey3613
        refine g_istore_n (lv' := [(2, .int y3613), (4, .int x3242), (3, .int x3243), (0, .ref (q 38)), (1, .ref (q 40))]) hk dX2_spreadAll_28 (by decide) rfl ?_
        refine g_iload_n hk dX2_spreadAll_29 rfl ?_
        refine g_aload_n hk dX2_spreadAll_30 rfl ?_
        refine g_iload hk dX2_spreadAll_31 rfl ?_
        refine lX_22 (v := (A 22 x3242.toNatClampNeg)) hk (vp_in_iff.mpr ⟨by omega, by omega⟩) rfl dX2_spreadAll_33 ?_
        have b3614l := Int32.le_toInt x3243
        have b3614h := Int32.toInt_lt x3243
        refine g_mmax hk (List.mem_cons_of_mem _ (List.mem_append_left _ (List.mem_of_getElem? (i := 5) rfl))) (List.mem_cons_of_mem _ (List.mem_append_left _ (List.mem_of_getElem? (i := 6) rfl))) (List.mem_cons_of_mem _ (List.mem_append_left _ (List.mem_of_getElem? (i := 3) rfl))) (List.mem_cons_of_mem _ (List.mem_append_left _ (List.mem_of_getElem? (i := 7) rfl))) (Nat.le_of_ble_eq_true rfl) (Nat.le_of_ble_eq_true rfl) (Nat.le_of_ble_eq_true rfl) (Nat.le_of_ble_eq_true rfl) dX2_spreadAll_34 ?_
        refine g_topi (fun y3615 ey3615 => ?_)
        have hy3615 := i32_max ey3615
        refine g_istore_n (lv' := [(3, .int y3615), (2, .int y3613), (4, .int x3242), (0, .ref (q 38)), (1, .ref (q 40))]) hk dX2_spreadAll_37 (by decide) rfl ?_
        obtain ⟨y3616, ey3616⟩ : ∃ y : Int32, y = x3242 + Int32.ofInt 1 := ⟨_, rfl⟩
        have hy3616 : y3616.toInt = x3242.toInt + 1 := i32_add ey3616 rfl (by decide) (by omega) (by omega)
        refine g_iinc (v := y3616) (lv' := [(4, .int y3616), (3, .int y3615), (2, .int y3613), (0, .ref (q 38)), (1, .ref (q 40))]) hk 2 dX2_spreadAll_38 rfl ey3616.symm (by decide) rfl ?_
        refine g_goto (tgt := 11) hk dX2_spreadAll_41 (by decide) ?_
        exact g_lv (List.forall_mem_cons.mpr ⟨List.mem_of_getElem? (i := 0) rfl, (List.forall_mem_cons.mpr ⟨List.mem_of_getElem? (i := 1) rfl, (List.forall_mem_cons.mpr ⟨List.mem_of_getElem? (i := 2) rfl, (List.forall_mem_cons.mpr ⟨List.mem_of_getElem? (i := 3) rfl, (List.forall_mem_cons.mpr ⟨List.mem_of_getElem? (i := 4) rfl, (fun _ h => absurd h List.not_mem_nil)⟩)⟩)⟩)⟩)⟩) (ih y3616 y3615 y3613 (by omega) (by omega) (by omega) (by omega))
  have k3618 : (1 : Int32).toInt = 1 := rfl
  have b3619l := Int32.le_toInt (A 22 0)
  have b3619h := Int32.toInt_lt (A 22 0)
  obtain ⟨n3617, n3617a, n3617b⟩ : ∃ n : Nat, 17 - 1 < (n : Int) ∧ 0 < n := ⟨((17 - 1 : Int)).toNat + 1, by omega, by omega⟩
  exact lp3536 n3617 1 (A 22 0) (A 22 0) (by omega) (by omega) n3617a n3617b
def wo_k230_X2_lessenAll : List Cond := [Cond.fieldLink RX2 24 "WarpDesk$Fit" "length" "I"]
def wz_k230_X2_lessenAll : List Cond := .code yX2_lessenAll cX2_lessenAll 4 none :: (wo_k230_X2_lessenAll ++ (wsX20 ++ ([] : List Cond)))
theorem zg_k230_X2_lessenAll : ∀ w ∈ wz_k230_X2_lessenAll, goodWord w = true := zg_cons rfl (zg_app (by decide +kernel) (zg_app zgU_wsX20 zg_nil))
theorem zi_k230_X2_lessenAll : ∀ w ∈ wz_k230_X2_lessenAll, w ∈ lw_tbl := zi_cons zw_960 (zi_app (zi_cons zw_343 zi_nil) (zi_app inX2 zi_nil))
set_option maxHeartbeats 4000000 in
set_option maxRecDepth 100000 in
theorem k230_X2_lessenAll (l : Launch) (D : va_G) (zt : Nat × Nat × Nat × (Nat → Nat) × (Nat → Nat)) (q : Nat → Nat) (d : Nat → ClassId) (I : Nat → Int32) (A : Nat → Nat → Int32) (z2 : Int32) (hIv : IvX I A) : GM l D zt (tyX d) yX2_lessenAll wz_k230_X2_lessenAll ({ frames := 0, cells := 0, slots := 0, locals := 0 } : Room) [.ref (q 38), .ref (q 40), .int z2] (wX q d I A) (fun v _ w' => ∃ (I' : Nat → Int32) (A' : Nat → Nat → Int32), Md [] I I' ∧ Md [22] A A' ∧ IvX I' A' ∧ v = none ∧ w' = wX q d I' A') 0 0 := by
  refine GM.of (cc := cX2_lessenAll) (maxL := 4) (ret := none) (own := RX2) (lv := [(0, .ref (q 38)), (1, .ref (q 40)), (2, .int z2)]) (by decide) rfl rfl (Nat.le_of_ble_eq_true rfl) rfl (fun κ sz hk hR hN => ?_)
  have hin2 : ∀ w ∈ u_ws RX2 TX2 10, w ∈ wz_k230_X2_lessenAll := fun w h => (List.mem_cons_of_mem _ (List.mem_append_right _ (List.mem_append_left _ h)))
  refine g_iconst (v := 0) hk dX2_lessenAll_0 (by decide) ?_
  refine g_istore_n (lv' := [(3, .int 0), (0, .ref (q 38)), (1, .ref (q 40)), (2, .int z2)]) hk dX2_lessenAll_1 (by decide) rfl ?_
  have lp3652 : ∀ (n3653 : Nat) (x3622 : Int32) (I3626 : Nat → Int32) (A3626 : Nat → Nat → Int32), (Md [] I I3626) → (Md [22] A A3626) → (IvX I3626 A3626) → (0 ≤ x3622.toInt) → (x3622.toInt ≤ 16) → (17 - x3622.toInt < (n3653 : Int)) → (0 < n3653) → GW κ 4 0 0 (wX q d I3626 A3626) 2 [(3, .int x3622), (0, .ref (q 38)), (1, .ref (q 40)), (2, .int z2)] [] := by
    intro n3653
    induction n3653 with
    | zero =>
      intro x3622 I3626 A3626 hI3626 hA3626 hV3626 h3650 h3651 m3654 m3654z
      exact absurd m3654z (Nat.lt_irrefl 0)
    | succ n3653 ih =>
      intro x3622 I3626 A3626 hI3626 hA3626 hV3626 h3650 h3651 m3654 m3654z
      refine g_iload_n hk dX2_lessenAll_2 rfl ?_
      refine g_aload_n hk dX2_lessenAll_3 rfl ?_
      refine gX_i30 (v := (I 30)) hk hin2 (List.mem_cons_of_mem _ (List.mem_append_left _ (List.mem_of_getElem? (i := 0) rfl))) dX2_lessenAll_4 (hI3626 30 rfl) ?_
      have f3655 := IvX_f30 hIv
      refine g_icmp_ge (tgt := 29) (a := x3622.toInt) (b := (I 30).toInt) hk dX2_lessenAll_7 (by decide) rfl rfl (fun c3656 => ?_) (fun c3656 => ?_)
      · skip
        exact g_vret hk hR ⟨I3626, A3626, (show Md [] I I3626 from (Md.tr Md.rf hI3626 rfl)), (show Md [22] A A3626 from (Md.tr Md.rf hA3626 rfl)), hV3626, rfl, rfl⟩ dX2_lessenAll_29
      · skip
        refine g_iload_n hk dX2_lessenAll_10 rfl ?_
        refine g_aload_n hk dX2_lessenAll_11 rfl ?_
        refine nX_22 hk dX2_lessenAll_12 ?_
        refine g_icmp_ge (tgt := 29) (a := x3622.toInt) (b := 16) hk dX2_lessenAll_13 (by decide) rfl rfl (fun z9 => absurd z9 (show ¬ (16 ≤ x3622.toInt) from by omega)) (fun _ => ?_)
        refine g_aload_n hk dX2_lessenAll_16 rfl ?_
        refine g_iload_n hk dX2_lessenAll_17 rfl ?_
        refine g_dup2 hk dX2_lessenAll_18 rfl rfl ?_
        refine lX_22 (v := (A3626 22 x3622.toNatClampNeg)) hk (vp_in_iff.mpr ⟨by omega, by omega⟩) rfl dX2_lessenAll_19 ?_
        refine g_iload_n hk dX2_lessenAll_20 rfl ?_
        have b3657l := Int32.le_toInt (A3626 22 x3622.toNatClampNeg)
        have b3657h := Int32.toInt_lt (A3626 22 x3622.toNatClampNeg)
        have b3658l := Int32.le_toInt z2
        have b3658h := Int32.toInt_lt z2
        refine g_isub hk dX2_lessenAll_21 ?_
        refine g_topi (fun y3659 ey3659 => ?_)
        have hy3659 := i32_sub0 ey3659
        refine sX_22 (j := x3622.toNatClampNeg) hk (vp_in_iff.mpr ⟨by omega, by omega⟩) rfl dX2_lessenAll_22 ?_
        obtain ⟨y3660, ey3660⟩ : ∃ y : Int32, y = x3622 + Int32.ofInt 1 := ⟨_, rfl⟩
        have hy3660 : y3660.toInt = x3622.toInt + 1 := i32_add ey3660 rfl (by decide) (by omega) (by omega)
        refine g_iinc (v := y3660) (lv' := [(3, .int y3660), (0, .ref (q 38)), (1, .ref (q 40)), (2, .int z2)]) hk 0 dX2_lessenAll_23 rfl ey3660.symm (by decide) rfl ?_
        refine g_goto (tgt := 2) hk dX2_lessenAll_26 (by decide) ?_
        exact g_lv (List.forall_mem_cons.mpr ⟨List.mem_of_getElem? (i := 0) rfl, (List.forall_mem_cons.mpr ⟨List.mem_of_getElem? (i := 1) rfl, (List.forall_mem_cons.mpr ⟨List.mem_of_getElem? (i := 2) rfl, (List.forall_mem_cons.mpr ⟨List.mem_of_getElem? (i := 3) rfl, (fun _ h => absurd h List.not_mem_nil)⟩)⟩)⟩)⟩) (ih y3660 I3626 (up3 A3626 22 (x3622.toNatClampNeg) y3659) (show Md [] I I3626 from Md.tr hI3626 (show Md [] I3626 I3626 from Md.rf) rfl) (show Md [22] A (up3 A3626 22 (x3622.toNatClampNeg) y3659) from Md.tr hA3626 (show Md [22] A3626 (up3 A3626 22 (x3622.toNatClampNeg) y3659) from (Md.up3 Md.rf rfl)) rfl) ⟨(IvX_f0 (I := I3626) (A := A3626) hV3626), (IvX_f18 (I := I3626) (A := A3626) hV3626), (IvX_f30 (I := I3626) (A := A3626) hV3626), (IvX_f31 (I := I3626) (A := A3626) hV3626), (IvX_a4 (I := I3626) (A := A3626) hV3626), (IvX_a9 (I := I3626) (A := A3626) hV3626), trivial⟩ (by omega) (by omega) (by omega) (by omega))
  have k3662 : (0 : Int32).toInt = 0 := rfl
  obtain ⟨n3661, n3661a, n3661b⟩ : ∃ n : Nat, 17 - 0 < (n : Int) ∧ 0 < n := ⟨((17 - 0 : Int)).toNat + 1, by omega, by omega⟩
  exact lp3652 n3661 0 I A Md.rf Md.rf hIv (by omega) (by omega) n3661a n3661b
def wo_k231_X2_sumOf : List Cond := [Cond.fieldLink RX2 24 "WarpDesk$Fit" "length" "I"]
def wz_k231_X2_sumOf : List Cond := .code yX2_sumOf cX2_sumOf 4 (some .int) :: (wo_k231_X2_sumOf ++ (wsX20 ++ ([] : List Cond)))
theorem zg_k231_X2_sumOf : ∀ w ∈ wz_k231_X2_sumOf, goodWord w = true := zg_cons rfl (zg_app (by decide +kernel) (zg_app zgU_wsX20 zg_nil))
theorem zi_k231_X2_sumOf : ∀ w ∈ wz_k231_X2_sumOf, w ∈ lw_tbl := zi_cons zw_955 (zi_app (zi_cons zw_343 zi_nil) (zi_app inX2 zi_nil))
set_option maxHeartbeats 4000000 in
set_option maxRecDepth 100000 in
theorem k231_X2_sumOf (l : Launch) (D : va_G) (zt : Nat × Nat × Nat × (Nat → Nat) × (Nat → Nat)) (q : Nat → Nat) (d : Nat → ClassId) (I : Nat → Int32) (A : Nat → Nat → Int32) (hIv : IvX I A) : GM l D zt (tyX d) yX2_sumOf wz_k231_X2_sumOf ({ frames := 0, cells := 0, slots := 0, locals := 0 } : Room) [.ref (q 38), .ref (q 40)] (wX q d I A) (fun v _ w' => ∃ y0 : Int32, v = some (.int y0) ∧ w' = wX q d I A) 0 0 := by
  refine GM.of (cc := cX2_sumOf) (maxL := 4) (ret := (some .int)) (own := RX2) (lv := [(0, .ref (q 38)), (1, .ref (q 40))]) (by decide) rfl rfl (Nat.le_of_ble_eq_true rfl) rfl (fun κ sz hk hR hN => ?_)
  have hin2 : ∀ w ∈ u_ws RX2 TX2 10, w ∈ wz_k231_X2_sumOf := fun w h => (List.mem_cons_of_mem _ (List.mem_append_right _ (List.mem_append_left _ h)))
  refine g_iconst (v := 0) hk dX2_sumOf_0 (by decide) ?_
  refine g_istore_n (lv' := [(2, .int 0), (0, .ref (q 38)), (1, .ref (q 40))]) hk dX2_sumOf_1 (by decide) rfl ?_
  refine g_iconst (v := 0) hk dX2_sumOf_2 (by decide) ?_
  refine g_istore_n (lv' := [(3, .int 0), (2, .int 0), (0, .ref (q 38)), (1, .ref (q 40))]) hk dX2_sumOf_3 (by decide) rfl ?_
  have lp3694 : ∀ (n3695 : Nat) (x3665 : Int32) (x3666 : Int32), (0 ≤ x3665.toInt) → (x3665.toInt ≤ 16) → (17 - x3665.toInt < (n3695 : Int)) → (0 < n3695) → GW κ 4 0 0 (wX q d I A) 4 [(3, .int x3665), (2, .int x3666), (0, .ref (q 38)), (1, .ref (q 40))] [] := by
    intro n3695
    induction n3695 with
    | zero =>
      intro x3665 x3666 h3692 h3693 m3696 m3696z
      exact absurd m3696z (Nat.lt_irrefl 0)
    | succ n3695 ih =>
      intro x3665 x3666 h3692 h3693 m3696 m3696z
      refine g_iload_n hk dX2_sumOf_4 rfl ?_
      refine g_aload_n hk dX2_sumOf_5 rfl ?_
      refine gX_i30 (v := (I 30)) hk hin2 (List.mem_cons_of_mem _ (List.mem_append_left _ (List.mem_of_getElem? (i := 0) rfl))) dX2_sumOf_6 rfl ?_
      have f3697 := IvX_f30 hIv
      refine g_icmp_ge (tgt := 30) (a := x3665.toInt) (b := (I 30).toInt) hk dX2_sumOf_9 (by decide) rfl rfl (fun c3698 => ?_) (fun c3698 => ?_)
      · skip
        refine g_iload_n hk dX2_sumOf_30 rfl ?_
        have b3699l := Int32.le_toInt x3666
        have b3699h := Int32.toInt_lt x3666
        exact g_iret hk hR rfl ⟨x3666, rfl, rfl⟩ dX2_sumOf_31
      · skip
        refine g_iload_n hk dX2_sumOf_12 rfl ?_
        refine g_aload_n hk dX2_sumOf_13 rfl ?_
        refine nX_22 hk dX2_sumOf_14 ?_
        refine g_icmp_ge (tgt := 30) (a := x3665.toInt) (b := 16) hk dX2_sumOf_15 (by decide) rfl rfl (fun z9 => absurd z9 (show ¬ (16 ≤ x3665.toInt) from by omega)) (fun _ => ?_)
        refine g_iload_n hk dX2_sumOf_18 rfl ?_
        refine g_aload_n hk dX2_sumOf_19 rfl ?_
        refine g_iload_n hk dX2_sumOf_20 rfl ?_
        refine lX_22 (v := (A 22 x3665.toNatClampNeg)) hk (vp_in_iff.mpr ⟨by omega, by omega⟩) rfl dX2_sumOf_21 ?_
        have b3700l := Int32.le_toInt x3666
        have b3700h := Int32.toInt_lt x3666
        have b3701l := Int32.le_toInt (A 22 x3665.toNatClampNeg)
        have b3701h := Int32.toInt_lt (A 22 x3665.toNatClampNeg)
        refine g_iadd hk dX2_sumOf_22 ?_
        refine g_topi (fun y3702 ey3702 => ?_)
        refine g_istore_n (lv' := [(2, .int y3702), (3, .int x3665), (0, .ref (q 38)), (1, .ref (q 40))]) hk dX2_sumOf_23 (by decide) rfl ?_
        obtain ⟨y3703, ey3703⟩ : ∃ y : Int32, y = x3665 + Int32.ofInt 1 := ⟨_, rfl⟩
        have hy3703 : y3703.toInt = x3665.toInt + 1 := i32_add ey3703 rfl (by decide) (by omega) (by omega)
        refine g_iinc (v := y3703) (lv' := [(3, .int y3703), (2, .int y3702), (0, .ref (q 38)), (1, .ref (q 40))]) hk 1 dX2_sumOf_24 rfl ey3703.symm (by decide) rfl ?_
        refine g_goto (tgt := 4) hk dX2_sumOf_27 (by decide) ?_
        exact g_lv (List.forall_mem_cons.mpr ⟨List.mem_of_getElem? (i := 0) rfl, (List.forall_mem_cons.mpr ⟨List.mem_of_getElem? (i := 1) rfl, (List.forall_mem_cons.mpr ⟨List.mem_of_getElem? (i := 2) rfl, (List.forall_mem_cons.mpr ⟨List.mem_of_getElem? (i := 3) rfl, (fun _ h => absurd h List.not_mem_nil)⟩)⟩)⟩)⟩) (ih y3703 y3702 (by omega) (by omega) (by omega) (by omega))
  have k3705 : (0 : Int32).toInt = 0 := rfl
  obtain ⟨n3704, n3704a, n3704b⟩ : ∃ n : Nat, 17 - 0 < (n : Int) ∧ 0 < n := ⟨((17 - 0 : Int)).toNat + 1, by omega, by omega⟩
  exact lp3694 n3704 0 0 (by omega) (by omega) n3704a n3704b
def wo_k228_X2_bringToLevel : List Cond := [Cond.fieldLink RX2 24 "WarpDesk$Fit" "length" "I", Cond.methodLink RX2 61 yX2_spreadAll, Cond.instanceMethod yX2_spreadAll, Cond.selects RX2 yX2_spreadAll yX2_spreadAll, Cond.initialized RX2, Cond.methodLink RX2 57 yX2_lessenAll, Cond.instanceMethod yX2_lessenAll, Cond.selects RX2 yX2_lessenAll yX2_lessenAll, Cond.methodLink RX2 50 yX2_sumOf, Cond.instanceMethod yX2_sumOf, Cond.selects RX2 yX2_sumOf yX2_sumOf, Cond.methodLink RX2 54 yJ9_floorDiv_7cf53, Cond.static yJ9_floorDiv_7cf53, Cond.initialized RJ9]
def wz_k228_X2_bringToLevel : List Cond := .code yX2_bringToLevel cX2_bringToLevel 3 none :: (wo_k228_X2_bringToLevel ++ (wsX20 ++ (wz_k229_X2_spreadAll ++ (wz_k230_X2_lessenAll ++ (wz_k231_X2_sumOf ++ (wz_k189_J9_floorDiv_7cf53 ++ ([] : List Cond)))))))
theorem zg_k228_X2_bringToLevel : ∀ w ∈ wz_k228_X2_bringToLevel, goodWord w = true := zg_cons rfl (zg_app (by decide +kernel) (zg_app zgU_wsX20 (zg_app zg_k229_X2_spreadAll (zg_app zg_k230_X2_lessenAll (zg_app zg_k231_X2_sumOf (zg_app zg_k189_J9_floorDiv_7cf53 zg_nil))))))
theorem zi_k228_X2_bringToLevel : ∀ w ∈ wz_k228_X2_bringToLevel, w ∈ lw_tbl := zi_cons zw_951 (zi_app (zi_cons zw_343 (zi_cons zw_961 (zi_cons zw_963 (zi_cons zw_27 (zi_cons zw_112 (zi_cons zw_957 (zi_cons zw_959 (zi_cons zw_26 (zi_cons zw_952 (zi_cons zw_954 (zi_cons zw_25 (zi_cons zw_956 (zi_cons zw_845 (zi_cons zw_120 zi_nil)))))))))))))) (zi_app inX2 (zi_app zi_k229_X2_spreadAll (zi_app zi_k230_X2_lessenAll (zi_app zi_k231_X2_sumOf (zi_app zi_k189_J9_floorDiv_7cf53 zi_nil))))))
set_option maxHeartbeats 4000000 in
set_option maxRecDepth 100000 in
theorem k228_X2_bringToLevel (l : Launch) (D : va_G) (zt : Nat × Nat × Nat × (Nat → Nat) × (Nat → Nat)) (q : Nat → Nat) (d : Nat → ClassId) (I : Nat → Int32) (A : Nat → Nat → Int32) (z2 : Int32) (hIv : IvX I A) : GM l D zt (tyX d) yX2_bringToLevel wz_k228_X2_bringToLevel ({ frames := 2, cells := 0, slots := 0, locals := 38 } : Room) [.ref (q 38), .ref (q 40), .int z2] (wX q d I A) (fun v _ w' => ∃ (I' : Nat → Int32) (A' : Nat → Nat → Int32), Md [] I I' ∧ Md [22] A A' ∧ IvX I' A' ∧ v = none ∧ w' = wX q d I' A') 0 0 := by
  refine GM.of (cc := cX2_bringToLevel) (maxL := 3) (ret := none) (own := RX2) (lv := [(0, .ref (q 38)), (1, .ref (q 40)), (2, .int z2)]) (by decide) rfl rfl (Nat.le_of_ble_eq_true rfl) rfl (fun κ sz hk hR hN => ?_)
  have hin2 : ∀ w ∈ u_ws RX2 TX2 10, w ∈ wz_k228_X2_bringToLevel := fun w h => (List.mem_cons_of_mem _ (List.mem_append_right _ (List.mem_append_left _ h)))
  refine g_aload_n hk dX2_bringToLevel_0 rfl ?_
  refine gX_i30 (v := (I 30)) hk hin2 (List.mem_cons_of_mem _ (List.mem_append_left _ (List.mem_of_getElem? (i := 0) rfl))) dX2_bringToLevel_1 rfl ?_
  have f3237 := IvX_f30 hIv
  refine g_iconst (v := 1) hk dX2_bringToLevel_4 (by decide) ?_
  refine g_icmp_lt (tgt := 17) (a := (I 30).toInt) (b := 1) hk dX2_bringToLevel_5 (by decide) rfl rfl (fun z9 => absurd z9 (show ¬ ((I 30).toInt < 1) from by omega)) (fun _ => ?_)
  refine g_aload_n hk dX2_bringToLevel_8 rfl ?_
  refine gX_i30 (v := (I 30)) hk hin2 (List.mem_cons_of_mem _ (List.mem_append_left _ (List.mem_of_getElem? (i := 0) rfl))) dX2_bringToLevel_9 rfl ?_
  refine g_aload_n hk dX2_bringToLevel_12 rfl ?_
  refine nX_22 hk dX2_bringToLevel_13 ?_
  refine g_icmp_le (tgt := 18) (a := (I 30).toInt) (b := 16) hk dX2_bringToLevel_14 (by decide) rfl rfl (fun _ => ?_) (fun z9 => absurd (show (I 30).toInt ≤ 16 from by omega) z9)
  refine g_iload_n hk dX2_bringToLevel_18 rfl ?_
  refine g_iconst (v := 1) hk dX2_bringToLevel_19 (by decide) ?_
  have b3238l := Int32.le_toInt z2
  have b3238h := Int32.toInt_lt z2
  refine g_icmp_ne (tgt := 43) (a := z2.toInt) (b := 1) hk dX2_bringToLevel_20 (by decide) rfl rfl (fun c3239 => ?_) (fun c3239 => ?_)
  · skip
    refine g_iload_n hk dX2_bringToLevel_43 rfl ?_
    refine g_iconst (v := 2) hk dX2_bringToLevel_44 (by decide) ?_
    refine g_icmp_ne (tgt := 59) (a := z2.toInt) (b := 2) hk dX2_bringToLevel_45 (by decide) rfl rfl (fun c3240 => ?_) (fun c3240 => ?_)
    · skip
      refine g_iload_n hk dX2_bringToLevel_59 rfl ?_
      refine g_iconst (v := 3) hk dX2_bringToLevel_60 (by decide) ?_
      refine g_icmp_ne (tgt := 69) (a := z2.toInt) (b := 3) hk dX2_bringToLevel_61 (by decide) rfl rfl (fun c3241 => ?_) (fun c3241 => ?_)
      · skip
        exact g_vret hk hR ⟨I, A, (show Md [] I I from Md.rf), (show Md [22] A A from Md.rf), hIv, rfl, rfl⟩ dX2_bringToLevel_69
      · skip
        refine g_aload_n hk dX2_bringToLevel_64 rfl ?_
        refine g_aload_n hk dX2_bringToLevel_65 rfl ?_
        refine g_callV (n := 1) hk (k229_X2_spreadAll l D zt q d I A  hIv) (SP.same _) (fun _ h => h) (gi_V (List.mem_cons_of_mem _ (List.mem_append_left _ (List.mem_of_getElem? (i := 1) rfl))) (List.mem_cons_of_mem _ (List.mem_append_left _ (List.mem_of_getElem? (i := 2) rfl))) (List.mem_cons_of_mem _ (List.mem_append_left _ (List.mem_of_getElem? (i := 3) rfl))) (List.mem_cons_of_mem _ (List.mem_append_left _ (List.mem_of_getElem? (i := 4) rfl))) (gi_sub (fun w h => (List.mem_cons_of_mem _ (List.mem_append_right _ (List.mem_append_right _ (List.mem_append_left _ h))))) zg_k229_X2_spreadAll)) rfl rfl rfl (by decide +kernel) ⟨Nat.le_of_ble_eq_true rfl, Nat.le_of_ble_eq_true rfl⟩ 38 rfl rfl rfl rfl (Nat.le_of_ble_eq_true rfl) ⟨Nat.le_of_ble_eq_true rfl, Nat.le_of_ble_eq_true rfl⟩ dX2_bringToLevel_66 (fun v ty' w' hp hk' => ?_)
        obtain ⟨I3621, A3621, hI3621, hA3621, hV3621, rfl, rfl⟩ := hp
        show GW κ 3 0 0 (wX q d I3621 A3621) 69 [(0, .ref (q 38)), (1, .ref (q 40)), (2, .int z2)] []
        exact g_vret hk hR ⟨I3621, A3621, (show Md [] I I3621 from (Md.tr Md.rf hI3621 rfl)), (show Md [22] A A3621 from (Md.tr Md.rf hA3621 rfl)), hV3621, rfl, rfl⟩ dX2_bringToLevel_69
    · skip
      refine g_aload_n hk dX2_bringToLevel_48 rfl ?_
      refine g_aload_n hk dX2_bringToLevel_49 rfl ?_
      refine g_aload_n hk dX2_bringToLevel_50 rfl ?_
      refine g_iconst (v := 0) hk dX2_bringToLevel_51 (by decide) ?_
      refine lX_22 (v := (A 22 0)) hk (vp_in_iff.mpr ⟨by decide, by decide⟩) rfl dX2_bringToLevel_52 ?_
      refine g_callV (n := 2) hk (k230_X2_lessenAll l D zt q d I A (A 22 0) hIv) (SP.same _) (fun _ h => h) (gi_V (List.mem_cons_of_mem _ (List.mem_append_left _ (List.mem_of_getElem? (i := 5) rfl))) (List.mem_cons_of_mem _ (List.mem_append_left _ (List.mem_of_getElem? (i := 6) rfl))) (List.mem_cons_of_mem _ (List.mem_append_left _ (List.mem_of_getElem? (i := 7) rfl))) (List.mem_cons_of_mem _ (List.mem_append_left _ (List.mem_of_getElem? (i := 4) rfl))) (gi_sub (fun w h => (List.mem_cons_of_mem _ (List.mem_append_right _ (List.mem_append_right _ (List.mem_append_right _ (List.mem_append_left _ h)))))) zg_k230_X2_lessenAll)) rfl rfl rfl (by decide +kernel) ⟨Nat.le_of_ble_eq_true rfl, Nat.le_of_ble_eq_true rfl⟩ 38 rfl rfl rfl rfl (Nat.le_of_ble_eq_true rfl) ⟨Nat.le_of_ble_eq_true rfl, Nat.le_of_ble_eq_true rfl⟩ dX2_bringToLevel_53 (fun v ty' w' hp hk' => ?_)
      obtain ⟨I3664, A3664, hI3664, hA3664, hV3664, rfl, rfl⟩ := hp
      show GW κ 3 0 0 (wX q d I3664 A3664) 56 [(0, .ref (q 38)), (1, .ref (q 40)), (2, .int z2)] []
      refine g_goto (tgt := 69) hk dX2_bringToLevel_56 (by decide) ?_
      exact g_vret hk hR ⟨I3664, A3664, (show Md [] I I3664 from (Md.tr Md.rf hI3664 rfl)), (show Md [22] A A3664 from (Md.tr Md.rf hA3664 rfl)), hV3664, rfl, rfl⟩ dX2_bringToLevel_69
  · skip
    refine g_aload_n hk dX2_bringToLevel_23 rfl ?_
    refine g_aload_n hk dX2_bringToLevel_24 rfl ?_
    refine g_aload_n hk dX2_bringToLevel_25 rfl ?_
    refine g_aload_n hk dX2_bringToLevel_26 rfl ?_
    refine g_callV (n := 1) hk (k231_X2_sumOf l D zt q d I A  hIv) (SP.same _) (fun _ h => h) (gi_V (List.mem_cons_of_mem _ (List.mem_append_left _ (List.mem_of_getElem? (i := 8) rfl))) (List.mem_cons_of_mem _ (List.mem_append_left _ (List.mem_of_getElem? (i := 9) rfl))) (List.mem_cons_of_mem _ (List.mem_append_left _ (List.mem_of_getElem? (i := 10) rfl))) (List.mem_cons_of_mem _ (List.mem_append_left _ (List.mem_of_getElem? (i := 4) rfl))) (gi_sub (fun w h => (List.mem_cons_of_mem _ (List.mem_append_right _ (List.mem_append_right _ (List.mem_append_right _ (List.mem_append_right _ (List.mem_append_left _ h))))))) zg_k231_X2_sumOf)) rfl rfl rfl (by decide +kernel) ⟨Nat.le_of_ble_eq_true rfl, Nat.le_of_ble_eq_true rfl⟩ 38 rfl rfl rfl rfl (Nat.le_of_ble_eq_true rfl) ⟨Nat.le_of_ble_eq_true rfl, Nat.le_of_ble_eq_true rfl⟩ dX2_bringToLevel_27 (fun v ty' w' hp hk' => ?_)
    obtain ⟨y3706, rfl, rfl⟩ := hp
    show GW κ 3 0 0 (wX q d I A) 30 [(0, .ref (q 38)), (1, .ref (q 40)), (2, .int z2)] [.int y3706, .ref (q 40), .ref (q 38)]
    refine g_aload_n hk dX2_bringToLevel_30 rfl ?_
    refine gX_i30 (v := (I 30)) hk hin2 (List.mem_cons_of_mem _ (List.mem_append_left _ (List.mem_of_getElem? (i := 0) rfl))) dX2_bringToLevel_31 rfl ?_
    refine g_callS (n := 2) hk (k189_J9_floorDiv_7cf53 l D zt q d I A y3706 (I 30) hIv (by omega)) (SP.same _) (fun _ h => h) (gi_S (List.mem_cons_of_mem _ (List.mem_append_left _ (List.mem_of_getElem? (i := 11) rfl))) (List.mem_cons_of_mem _ (List.mem_append_left _ (List.mem_of_getElem? (i := 12) rfl))) (List.mem_cons_of_mem _ (List.mem_append_left _ (List.mem_of_getElem? (i := 13) rfl))) (gi_sub (fun w h => (List.mem_cons_of_mem _ (List.mem_append_right _ (List.mem_append_right _ (List.mem_append_right _ (List.mem_append_right _ (List.mem_append_right _ (List.mem_append_left _ h)))))))) zg_k189_J9_floorDiv_7cf53)) rfl rfl rfl (by decide +kernel) ⟨Nat.le_of_ble_eq_true rfl, Nat.le_of_ble_eq_true rfl⟩ rfl rfl (Nat.le_of_ble_eq_true rfl) ⟨Nat.le_of_ble_eq_true rfl, Nat.le_of_ble_eq_true rfl⟩ dX2_bringToLevel_34 (fun v ty' w' hp hk' => ?_)
    obtain ⟨y3707, rfl, rfl⟩ := hp
    show GW κ 3 0 0 (wX q d I A) 37 [(0, .ref (q 38)), (1, .ref (q 40)), (2, .int z2)] [.int y3707, .ref (q 40), .ref (q 38)]
    refine g_callV (n := 2) hk (k230_X2_lessenAll l D zt q d I A y3707 hIv) (SP.same _) (fun _ h => h) (gi_V (List.mem_cons_of_mem _ (List.mem_append_left _ (List.mem_of_getElem? (i := 5) rfl))) (List.mem_cons_of_mem _ (List.mem_append_left _ (List.mem_of_getElem? (i := 6) rfl))) (List.mem_cons_of_mem _ (List.mem_append_left _ (List.mem_of_getElem? (i := 7) rfl))) (List.mem_cons_of_mem _ (List.mem_append_left _ (List.mem_of_getElem? (i := 4) rfl))) (gi_sub (fun w h => (List.mem_cons_of_mem _ (List.mem_append_right _ (List.mem_append_right _ (List.mem_append_right _ (List.mem_append_left _ h)))))) zg_k230_X2_lessenAll)) rfl rfl rfl (by decide +kernel) ⟨Nat.le_of_ble_eq_true rfl, Nat.le_of_ble_eq_true rfl⟩ 38 rfl rfl rfl rfl (Nat.le_of_ble_eq_true rfl) ⟨Nat.le_of_ble_eq_true rfl, Nat.le_of_ble_eq_true rfl⟩ dX2_bringToLevel_37 (fun v ty' w' hp hk' => ?_)
    obtain ⟨I3709, A3709, hI3709, hA3709, hV3709, rfl, rfl⟩ := hp
    show GW κ 3 0 0 (wX q d I3709 A3709) 40 [(0, .ref (q 38)), (1, .ref (q 40)), (2, .int z2)] []
    refine g_goto (tgt := 69) hk dX2_bringToLevel_40 (by decide) ?_
    exact g_vret hk hR ⟨I3709, A3709, (show Md [] I I3709 from (Md.tr Md.rf hI3709 rfl)), (show Md [22] A A3709 from (Md.tr Md.rf hA3709 rfl)), hV3709, rfl, rfl⟩ dX2_bringToLevel_69
def wo_k226_X0_laySecondWindow : List Cond := [Cond.fieldLink RX0 18 "WarpDesk$Bench" "series" "LWarpDesk$Series;", Cond.fieldLink RX0 77 "WarpDesk$Bench" "length" "I", Cond.fieldLink RX0 12 "WarpDesk$Bench" "fit" "LWarpDesk$Fit;", Cond.fieldLink RX0 88 "WarpDesk$Fit" "right" "[I", Cond.methodLink RX0 81 yX6_copyWindow, Cond.instanceMethod yX6_copyWindow, Cond.selects RX6 yX6_copyWindow yX6_copyWindow, Cond.initialized RX6, Cond.fieldLink RX0 26 "WarpDesk$Bench" "settings" "LWarpDesk$Settings;", Cond.methodLink RX0 49 yX7_valueOf, Cond.instanceMethod yX7_valueOf, Cond.selects RX7 yX7_valueOf yX7_valueOf, Cond.initialized RX7, Cond.methodLink RX0 73 yX2_bringToLevel, Cond.instanceMethod yX2_bringToLevel, Cond.selects RX2 yX2_bringToLevel yX2_bringToLevel, Cond.initialized RX2]
def wz_k226_X0_laySecondWindow : List Cond := .code yX0_laySecondWindow cX0_laySecondWindow 2 none :: (wo_k226_X0_laySecondWindow ++ (wsX00 ++ (wsX20 ++ (wz_k227_X6_copyWindow ++ (wz_k194_X7_valueOf ++ (wz_k228_X2_bringToLevel ++ ([] : List Cond)))))))
theorem zg_k226_X0_laySecondWindow : ∀ w ∈ wz_k226_X0_laySecondWindow, goodWord w = true := zg_cons rfl (zg_app (by decide +kernel) (zg_app zgU_wsX00 (zg_app zgU_wsX20 (zg_app zg_k227_X6_copyWindow (zg_app zg_k194_X7_valueOf (zg_app zg_k228_X2_bringToLevel zg_nil))))))
theorem zi_k226_X0_laySecondWindow : ∀ w ∈ wz_k226_X0_laySecondWindow, w ∈ lw_tbl := zi_cons zw_991 (zi_app (zi_cons zw_373 (zi_cons zw_384 (zi_cons zw_380 (zi_cons zw_338 (zi_cons zw_944 (zi_cons zw_945 (zi_cons zw_946 (zi_cons zw_109 (zi_cons zw_378 (zi_cons zw_933 (zi_cons zw_786 (zi_cons zw_787 (zi_cons zw_107 (zi_cons zw_948 (zi_cons zw_949 (zi_cons zw_950 (zi_cons zw_112 zi_nil))))))))))))))))) (zi_app inX0 (zi_app inX2 (zi_app zi_k227_X6_copyWindow (zi_app zi_k194_X7_valueOf (zi_app zi_k228_X2_bringToLevel zi_nil))))))
set_option maxHeartbeats 4000000 in
set_option maxRecDepth 100000 in
theorem k226_X0_laySecondWindow (l : Launch) (D : va_G) (zt : Nat × Nat × Nat × (Nat → Nat) × (Nat → Nat)) (q : Nat → Nat) (d : Nat → ClassId) (I : Nat → Int32) (A : Nat → Nat → Int32) (z1 : Int32) (hIv : IvX I A) : GM l D zt (tyX d) yX0_laySecondWindow wz_k226_X0_laySecondWindow ({ frames := 3, cells := 0, slots := 0, locals := 60 } : Room) [.ref (q 37), .int z1] (wX q d I A) (fun v _ w' => ∃ (I' : Nat → Int32) (A' : Nat → Nat → Int32), Md [] I I' ∧ Md [22] A A' ∧ IvX I' A' ∧ v = none ∧ w' = wX q d I' A') 0 0 := by
  refine GM.of (cc := cX0_laySecondWindow) (maxL := 2) (ret := none) (own := RX0) (lv := [(0, .ref (q 37)), (1, .int z1)]) (by decide) rfl rfl (Nat.le_of_ble_eq_true rfl) rfl (fun κ sz hk hR hN => ?_)
  have hin0 : ∀ w ∈ u_ws RX0 TX0 5, w ∈ wz_k226_X0_laySecondWindow := fun w h => (List.mem_cons_of_mem _ (List.mem_append_right _ (List.mem_append_left _ h)))
  have hin2 : ∀ w ∈ u_ws RX2 TX2 10, w ∈ wz_k226_X0_laySecondWindow := fun w h => (List.mem_cons_of_mem _ (List.mem_append_right _ (List.mem_append_right _ (List.mem_append_left _ h))))
  refine g_aload_n hk dX0_laySecondWindow_0 rfl ?_
  refine gX_r37_0 hk hin0 (List.mem_cons_of_mem _ (List.mem_append_left _ (List.mem_of_getElem? (i := 0) rfl))) dX0_laySecondWindow_1 ?_
  refine g_iload_n hk dX0_laySecondWindow_4 rfl ?_
  refine g_aload_n hk dX0_laySecondWindow_5 rfl ?_
  refine gX_i28 (v := (I 28)) hk hin0 (List.mem_cons_of_mem _ (List.mem_append_left _ (List.mem_of_getElem? (i := 1) rfl))) dX0_laySecondWindow_6 rfl ?_
  refine g_aload_n hk dX0_laySecondWindow_9 rfl ?_
  refine gX_r37_3 hk hin0 (List.mem_cons_of_mem _ (List.mem_append_left _ (List.mem_of_getElem? (i := 2) rfl))) dX0_laySecondWindow_10 ?_
  refine gX_r38_1 hk hin2 (List.mem_cons_of_mem _ (List.mem_append_left _ (List.mem_of_getElem? (i := 3) rfl))) dX0_laySecondWindow_13 ?_
  refine g_callV (n := 3) hk (k227_X6_copyWindow l D zt q d I A z1 (I 28) hIv) (SP.same _) (fun _ h => h) (gi_V (List.mem_cons_of_mem _ (List.mem_append_left _ (List.mem_of_getElem? (i := 4) rfl))) (List.mem_cons_of_mem _ (List.mem_append_left _ (List.mem_of_getElem? (i := 5) rfl))) (List.mem_cons_of_mem _ (List.mem_append_left _ (List.mem_of_getElem? (i := 6) rfl))) (List.mem_cons_of_mem _ (List.mem_append_left _ (List.mem_of_getElem? (i := 7) rfl))) (gi_sub (fun w h => (List.mem_cons_of_mem _ (List.mem_append_right _ (List.mem_append_right _ (List.mem_append_right _ (List.mem_append_left _ h)))))) zg_k227_X6_copyWindow)) rfl rfl rfl (by decide +kernel) ⟨Nat.le_of_ble_eq_true rfl, Nat.le_of_ble_eq_true rfl⟩ 13 rfl rfl rfl rfl (Nat.le_of_ble_eq_true rfl) ⟨Nat.le_of_ble_eq_true rfl, Nat.le_of_ble_eq_true rfl⟩ dX0_laySecondWindow_16 (fun v ty' w' hp hk' => ?_)
  obtain ⟨I3234, A3234, hI3234, hA3234, hV3234, rfl, rfl⟩ := hp
  show GW κ 2 0 0 (wX q d I3234 A3234) 19 [(0, .ref (q 37)), (1, .int z1)] []
  refine g_aload_n hk dX0_laySecondWindow_19 rfl ?_
  refine gX_r37_3 hk hin0 (List.mem_cons_of_mem _ (List.mem_append_left _ (List.mem_of_getElem? (i := 2) rfl))) dX0_laySecondWindow_20 ?_
  refine g_aload_n hk dX0_laySecondWindow_23 rfl ?_
  refine gX_r37_3 hk hin0 (List.mem_cons_of_mem _ (List.mem_append_left _ (List.mem_of_getElem? (i := 2) rfl))) dX0_laySecondWindow_24 ?_
  refine gX_r38_1 hk hin2 (List.mem_cons_of_mem _ (List.mem_append_left _ (List.mem_of_getElem? (i := 3) rfl))) dX0_laySecondWindow_27 ?_
  refine g_aload_n hk dX0_laySecondWindow_30 rfl ?_
  refine gX_r37_2 hk hin0 (List.mem_cons_of_mem _ (List.mem_append_left _ (List.mem_of_getElem? (i := 8) rfl))) dX0_laySecondWindow_31 ?_
  refine g_iconst (v := 1) hk dX0_laySecondWindow_34 (by decide) ?_
  have k3235 : (1 : Int32).toInt = 1 := rfl
  refine g_callV (n := 1) hk (k194_X7_valueOf l D zt q d I3234 A3234 1 hV3234) (SP.same _) (fun _ h => h) (gi_V (List.mem_cons_of_mem _ (List.mem_append_left _ (List.mem_of_getElem? (i := 9) rfl))) (List.mem_cons_of_mem _ (List.mem_append_left _ (List.mem_of_getElem? (i := 10) rfl))) (List.mem_cons_of_mem _ (List.mem_append_left _ (List.mem_of_getElem? (i := 11) rfl))) (List.mem_cons_of_mem _ (List.mem_append_left _ (List.mem_of_getElem? (i := 12) rfl))) (gi_sub (fun w h => (List.mem_cons_of_mem _ (List.mem_append_right _ (List.mem_append_right _ (List.mem_append_right _ (List.mem_append_right _ (List.mem_append_left _ h))))))) zg_k194_X7_valueOf)) rfl rfl rfl (by decide +kernel) ⟨Nat.le_of_ble_eq_true rfl, Nat.le_of_ble_eq_true rfl⟩ 18 rfl rfl rfl rfl (Nat.le_of_ble_eq_true rfl) ⟨Nat.le_of_ble_eq_true rfl, Nat.le_of_ble_eq_true rfl⟩ dX0_laySecondWindow_35 (fun v ty' w' hp hk' => ?_)
  obtain ⟨y3236, rfl, rfl⟩ := hp
  show GW κ 2 0 0 (wX q d I3234 A3234) 38 [(0, .ref (q 37)), (1, .int z1)] [.int y3236, .ref (q 40), .ref (q 38)]
  refine g_callV (n := 2) hk (k228_X2_bringToLevel l D zt q d I3234 A3234 y3236 hV3234) (SP.same _) (fun _ h => h) (gi_V (List.mem_cons_of_mem _ (List.mem_append_left _ (List.mem_of_getElem? (i := 13) rfl))) (List.mem_cons_of_mem _ (List.mem_append_left _ (List.mem_of_getElem? (i := 14) rfl))) (List.mem_cons_of_mem _ (List.mem_append_left _ (List.mem_of_getElem? (i := 15) rfl))) (List.mem_cons_of_mem _ (List.mem_append_left _ (List.mem_of_getElem? (i := 16) rfl))) (gi_sub (fun w h => (List.mem_cons_of_mem _ (List.mem_append_right _ (List.mem_append_right _ (List.mem_append_right _ (List.mem_append_right _ (List.mem_append_right _ (List.mem_append_left _ h)))))))) zg_k228_X2_bringToLevel)) rfl rfl rfl (by decide +kernel) ⟨Nat.le_of_ble_eq_true rfl, Nat.le_of_ble_eq_true rfl⟩ 38 rfl rfl rfl rfl (Nat.le_of_ble_eq_true rfl) ⟨Nat.le_of_ble_eq_true rfl, Nat.le_of_ble_eq_true rfl⟩ dX0_laySecondWindow_38 (fun v ty' w' hp hk' => ?_)
  obtain ⟨I3711, A3711, hI3711, hA3711, hV3711, rfl, rfl⟩ := hp
  show GW κ 2 0 0 (wX q d I3711 A3711) 41 [(0, .ref (q 37)), (1, .int z1)] []
  exact g_vret hk hR ⟨I3711, A3711, (show Md [] I I3711 from (Md.tr (Md.tr Md.rf hI3234 rfl) hI3711 rfl)), (show Md [22] A A3711 from (Md.tr (Md.tr Md.rf hA3234 rfl) hA3711 rfl)), hV3711, rfl, rfl⟩ dX0_laySecondWindow_41
def wo_k222_X0_openBoth : List Cond := [Cond.methodLink RX0 46 yX0_hasBoth, Cond.instanceMethod yX0_hasBoth, Cond.selects RX0 yX0_hasBoth yX0_hasBoth, Cond.initialized RX0, Cond.fieldLink RX0 26 "WarpDesk$Bench" "settings" "LWarpDesk$Settings;", Cond.methodLink RX0 49 yX7_valueOf, Cond.instanceMethod yX7_valueOf, Cond.selects RX7 yX7_valueOf yX7_valueOf, Cond.initialized RX7, Cond.methodLink RX0 54 yX0_openQuery, Cond.instanceMethod yX0_openQuery, Cond.selects RX0 yX0_openQuery yX0_openQuery, Cond.methodLink RX0 58 yX0_laySecondWindow, Cond.instanceMethod yX0_laySecondWindow, Cond.selects RX0 yX0_laySecondWindow yX0_laySecondWindow]
def wz_k222_X0_openBoth : List Cond := .code yX0_openBoth cX0_openBoth 3 (some .boolean) :: (wo_k222_X0_openBoth ++ (wsX00 ++ (wz_k223_X0_hasBoth ++ (wz_k194_X7_valueOf ++ (wz_k224_X0_openQuery ++ (wz_k226_X0_laySecondWindow ++ ([] : List Cond)))))))
theorem zg_k222_X0_openBoth : ∀ w ∈ wz_k222_X0_openBoth, goodWord w = true := zg_cons rfl (zg_app (by decide +kernel) (zg_app zgU_wsX00 (zg_app zg_k223_X0_hasBoth (zg_app zg_k194_X7_valueOf (zg_app zg_k224_X0_openQuery (zg_app zg_k226_X0_laySecondWindow zg_nil))))))
theorem zi_k222_X0_openBoth : ∀ w ∈ wz_k222_X0_openBoth, w ∈ lw_tbl := zi_cons zw_972 (zi_app (zi_cons zw_973 (zi_cons zw_974 (zi_cons zw_975 (zi_cons zw_111 (zi_cons zw_378 (zi_cons zw_933 (zi_cons zw_786 (zi_cons zw_787 (zi_cons zw_107 (zi_cons zw_980 (zi_cons zw_981 (zi_cons zw_982 (zi_cons zw_988 (zi_cons zw_989 (zi_cons zw_990 zi_nil))))))))))))))) (zi_app inX0 (zi_app zi_k223_X0_hasBoth (zi_app zi_k194_X7_valueOf (zi_app zi_k224_X0_openQuery (zi_app zi_k226_X0_laySecondWindow zi_nil))))))
set_option maxHeartbeats 4000000 in
set_option maxRecDepth 100000 in
theorem k222_X0_openBoth (l : Launch) (D : va_G) (zt : Nat × Nat × Nat × (Nat → Nat) × (Nat → Nat)) (q : Nat → Nat) (d : Nat → ClassId) (I : Nat → Int32) (A : Nat → Nat → Int32) (z1 : Int32) (z2 : Int32) (hIv : IvX I A) : GM l D zt (tyX d) yX0_openBoth wz_k222_X0_openBoth ({ frames := 5, cells := 0, slots := 0, locals := 109 } : Room) [.ref (q 37), .int z1, .int z2] (wX q d I A) (fun v _ w' => ∃ (I' : Nat → Int32) (A' : Nat → Nat → Int32), Md [28, 30, 31, 32] I I' ∧ Md [21, 22] A A' ∧ IvX I' A' ∧ ∃ y0 : Int32, (0 ≤ y0.toInt) ∧ (y0.toInt ≤ 1) ∧ v = some (.int y0) ∧ w' = wX q d I' A') 0 0 := by
  refine GM.of (cc := cX0_openBoth) (maxL := 3) (ret := (some .boolean)) (own := RX0) (lv := [(0, .ref (q 37)), (1, .int z1), (2, .int z2)]) (by decide) rfl rfl (Nat.le_of_ble_eq_true rfl) rfl (fun κ sz hk hR hN => ?_)
  have hin0 : ∀ w ∈ u_ws RX0 TX0 5, w ∈ wz_k222_X0_openBoth := fun w h => (List.mem_cons_of_mem _ (List.mem_append_right _ (List.mem_append_left _ h)))
  refine g_aload_n hk dX0_openBoth_0 rfl ?_
  refine g_iload_n hk dX0_openBoth_1 rfl ?_
  refine g_iload_n hk dX0_openBoth_2 rfl ?_
  refine g_callV (n := 2) hk (k223_X0_hasBoth l D zt q d I A z1 z2 hIv) (SP.same _) (fun _ h => h) (gi_V (List.mem_cons_of_mem _ (List.mem_append_left _ (List.mem_of_getElem? (i := 0) rfl))) (List.mem_cons_of_mem _ (List.mem_append_left _ (List.mem_of_getElem? (i := 1) rfl))) (List.mem_cons_of_mem _ (List.mem_append_left _ (List.mem_of_getElem? (i := 2) rfl))) (List.mem_cons_of_mem _ (List.mem_append_left _ (List.mem_of_getElem? (i := 3) rfl))) (gi_sub (fun w h => (List.mem_cons_of_mem _ (List.mem_append_right _ (List.mem_append_right _ (List.mem_append_left _ h))))) zg_k223_X0_hasBoth)) rfl rfl rfl (by decide +kernel) ⟨Nat.le_of_ble_eq_true rfl, Nat.le_of_ble_eq_true rfl⟩ 37 rfl rfl rfl rfl (Nat.le_of_ble_eq_true rfl) ⟨Nat.le_of_ble_eq_true rfl, Nat.le_of_ble_eq_true rfl⟩ dX0_openBoth_3 (fun v ty' w' hp hk' => ?_)
  rcases hp with ⟨rfl, rfl⟩ | ⟨c3068, c3069, c3070, c3071, c3072, c3073, c3074, c3075, rfl, rfl⟩
  · skip
    show GW κ 3 0 0 (wX q d I A) 6 [(0, .ref (q 37)), (1, .int z1), (2, .int z2)] [.int 0]
    refine g_if_ne (tgt := 11) (a := 0) hk dX0_openBoth_6 (by decide) rfl (fun z9 => absurd z9 (show ¬ ((0 : Int) ≠ (0 : Int)) from by decide)) (fun _ => ?_)
    refine g_iconst (v := 0) hk dX0_openBoth_9 (by decide) ?_
    exact g_iret hk hR rfl ⟨I, A, (show Md [28, 30, 31, 32] I I from Md.rf), (show Md [21, 22] A A from Md.rf), hIv, 0, (by decide), (by decide), rfl, rfl⟩ dX0_openBoth_10
  · skip
    show GW κ 3 0 0 (wX q d I A) 6 [(0, .ref (q 37)), (1, .int z1), (2, .int z2)] [.int 1]
    refine g_if_ne (tgt := 11) (a := 1) hk dX0_openBoth_6 (by decide) rfl (fun _ => ?_) (fun z9 => absurd (show (1 : Int) ≠ (0 : Int) from by decide) z9)
    refine g_aload_n hk dX0_openBoth_11 rfl ?_
    refine g_iload_n hk dX0_openBoth_12 rfl ?_
    refine g_aload_n hk dX0_openBoth_13 rfl ?_
    refine gX_r37_2 hk hin0 (List.mem_cons_of_mem _ (List.mem_append_left _ (List.mem_of_getElem? (i := 4) rfl))) dX0_openBoth_14 ?_
    refine g_iconst (v := 0) hk dX0_openBoth_17 (by decide) ?_
    have k3077 : (0 : Int32).toInt = 0 := rfl
    refine g_callV (n := 1) hk (k194_X7_valueOf l D zt q d I A 0 hIv) (SP.same _) (fun _ h => h) (gi_V (List.mem_cons_of_mem _ (List.mem_append_left _ (List.mem_of_getElem? (i := 5) rfl))) (List.mem_cons_of_mem _ (List.mem_append_left _ (List.mem_of_getElem? (i := 6) rfl))) (List.mem_cons_of_mem _ (List.mem_append_left _ (List.mem_of_getElem? (i := 7) rfl))) (List.mem_cons_of_mem _ (List.mem_append_left _ (List.mem_of_getElem? (i := 8) rfl))) (gi_sub (fun w h => (List.mem_cons_of_mem _ (List.mem_append_right _ (List.mem_append_right _ (List.mem_append_right _ (List.mem_append_left _ h)))))) zg_k194_X7_valueOf)) rfl rfl rfl (by decide +kernel) ⟨Nat.le_of_ble_eq_true rfl, Nat.le_of_ble_eq_true rfl⟩ 18 rfl rfl rfl rfl (Nat.le_of_ble_eq_true rfl) ⟨Nat.le_of_ble_eq_true rfl, Nat.le_of_ble_eq_true rfl⟩ dX0_openBoth_18 (fun v ty' w' hp hk' => ?_)
    obtain ⟨y3078, rfl, rfl⟩ := hp
    show GW κ 3 0 0 (wX q d I A) 21 [(0, .ref (q 37)), (1, .int z1), (2, .int z2)] [.int y3078, .int z1, .ref (q 37)]
    refine g_callV (n := 2) hk (k224_X0_openQuery l D zt q d I A z1 y3078 hIv) (SP.same _) (fun _ h => h) (gi_V (List.mem_cons_of_mem _ (List.mem_append_left _ (List.mem_of_getElem? (i := 9) rfl))) (List.mem_cons_of_mem _ (List.mem_append_left _ (List.mem_of_getElem? (i := 10) rfl))) (List.mem_cons_of_mem _ (List.mem_append_left _ (List.mem_of_getElem? (i := 11) rfl))) (List.mem_cons_of_mem _ (List.mem_append_left _ (List.mem_of_getElem? (i := 3) rfl))) (gi_sub (fun w h => (List.mem_cons_of_mem _ (List.mem_append_right _ (List.mem_append_right _ (List.mem_append_right _ (List.mem_append_right _ (List.mem_append_left _ h))))))) zg_k224_X0_openQuery)) rfl rfl rfl (by decide +kernel) ⟨Nat.le_of_ble_eq_true rfl, Nat.le_of_ble_eq_true rfl⟩ 37 rfl rfl rfl rfl (Nat.le_of_ble_eq_true rfl) ⟨Nat.le_of_ble_eq_true rfl, Nat.le_of_ble_eq_true rfl⟩ dX0_openBoth_21 (fun v ty' w' hp hk' => ?_)
    obtain ⟨I3186, A3186, hI3186, hA3186, hV3186, rfl, rfl⟩ := hp
    show GW κ 3 0 0 (wX q d I3186 A3186) 24 [(0, .ref (q 37)), (1, .int z1), (2, .int z2)] []
    refine g_aload_n hk dX0_openBoth_24 rfl ?_
    refine g_iload_n hk dX0_openBoth_25 rfl ?_
    refine g_callV (n := 1) hk (k226_X0_laySecondWindow l D zt q d I3186 A3186 z2 hV3186) (SP.same _) (fun _ h => h) (gi_V (List.mem_cons_of_mem _ (List.mem_append_left _ (List.mem_of_getElem? (i := 12) rfl))) (List.mem_cons_of_mem _ (List.mem_append_left _ (List.mem_of_getElem? (i := 13) rfl))) (List.mem_cons_of_mem _ (List.mem_append_left _ (List.mem_of_getElem? (i := 14) rfl))) (List.mem_cons_of_mem _ (List.mem_append_left _ (List.mem_of_getElem? (i := 3) rfl))) (gi_sub (fun w h => (List.mem_cons_of_mem _ (List.mem_append_right _ (List.mem_append_right _ (List.mem_append_right _ (List.mem_append_right _ (List.mem_append_right _ (List.mem_append_left _ h)))))))) zg_k226_X0_laySecondWindow)) rfl rfl rfl (by decide +kernel) ⟨Nat.le_of_ble_eq_true rfl, Nat.le_of_ble_eq_true rfl⟩ 37 rfl rfl rfl rfl (Nat.le_of_ble_eq_true rfl) ⟨Nat.le_of_ble_eq_true rfl, Nat.le_of_ble_eq_true rfl⟩ dX0_openBoth_26 (fun v ty' w' hp hk' => ?_)
    obtain ⟨I3713, A3713, hI3713, hA3713, hV3713, rfl, rfl⟩ := hp
    show GW κ 3 0 0 (wX q d I3713 A3713) 29 [(0, .ref (q 37)), (1, .int z1), (2, .int z2)] []
    refine g_iconst (v := 1) hk dX0_openBoth_29 (by decide) ?_
    exact g_iret hk hR rfl ⟨I3713, A3713, (show Md [28, 30, 31, 32] I I3713 from (Md.tr (Md.tr Md.rf hI3186 rfl) hI3713 rfl)), (show Md [21, 22] A A3713 from (Md.tr (Md.tr Md.rf hA3186 rfl) hA3713 rfl)), hV3713, 1, (by decide), (by decide), rfl, rfl⟩ dX0_openBoth_30
def wo_k235_X2_costOf : List Cond := [Cond.fieldLink RX2 42 "WarpDesk$Fit" "isSquare" "Z"]
def wz_k235_X2_costOf : List Cond := .code yX2_costOf cX2_costOf 4 (some .int) :: (wo_k235_X2_costOf ++ (wsX20 ++ ([] : List Cond)))
theorem zg_k235_X2_costOf : ∀ w ∈ wz_k235_X2_costOf, goodWord w = true := zg_cons rfl (zg_app (by decide +kernel) (zg_app zgU_wsX20 zg_nil))
theorem zi_k235_X2_costOf : ∀ w ∈ wz_k235_X2_costOf, w ∈ lw_tbl := zi_cons zw_1008 (zi_app (zi_cons zw_345 zi_nil) (zi_app inX2 zi_nil))
set_option maxHeartbeats 4000000 in
set_option maxRecDepth 100000 in
theorem k235_X2_costOf (l : Launch) (D : va_G) (zt : Nat × Nat × Nat × (Nat → Nat) × (Nat → Nat)) (q : Nat → Nat) (d : Nat → ClassId) (I : Nat → Int32) (A : Nat → Nat → Int32) (z1 : Int32) (z2 : Int32) (hIv : IvX I A) : GM l D zt (tyX d) yX2_costOf wz_k235_X2_costOf ({ frames := 0, cells := 0, slots := 0, locals := 0 } : Room) [.ref (q 38), .int z1, .int z2] (wX q d I A) (fun v _ w' => ∃ y0 : Int32, v = some (.int y0) ∧ w' = wX q d I A) 0 0 := by
  refine GM.of (cc := cX2_costOf) (maxL := 4) (ret := (some .int)) (own := RX2) (lv := [(0, .ref (q 38)), (1, .int z1), (2, .int z2)]) (by decide) rfl rfl (Nat.le_of_ble_eq_true rfl) rfl (fun κ sz hk hR hN => ?_)
  have hin2 : ∀ w ∈ u_ws RX2 TX2 10, w ∈ wz_k235_X2_costOf := fun w h => (List.mem_cons_of_mem _ (List.mem_append_right _ (List.mem_append_left _ h)))
  refine g_iload_n hk dX2_costOf_0 rfl ?_
  refine g_iload_n hk dX2_costOf_1 rfl ?_
  have b3749l := Int32.le_toInt z1
  have b3749h := Int32.toInt_lt z1
  have b3750l := Int32.le_toInt z2
  have b3750h := Int32.toInt_lt z2
  refine g_isub hk dX2_costOf_2 ?_
  refine g_topi (fun y3751 ey3751 => ?_)
  have hy3751 := i32_sub0 ey3751
  refine g_istore_n (lv' := [(3, .int y3751), (0, .ref (q 38)), (1, .int z1), (2, .int z2)]) hk dX2_costOf_3 (by decide) rfl ?_
  refine g_aload_n hk dX2_costOf_4 rfl ?_
  refine gX_i32 (v := (I 32)) hk hin2 (List.mem_cons_of_mem _ (List.mem_append_left _ (List.mem_of_getElem? (i := 0) rfl))) dX2_costOf_5 rfl ?_
  have b3752l := Int32.le_toInt (I 32)
  have b3752h := Int32.toInt_lt (I 32)
  refine g_if_eq (tgt := 15) (a := (I 32).toInt) hk dX2_costOf_8 (by decide) rfl (fun c3753 => ?_) (fun c3753 => ?_)
  · skip
    refine g_iload_n hk dX2_costOf_15 rfl ?_
    have b3754l := Int32.le_toInt y3751
    have b3754h := Int32.toInt_lt y3751
    refine g_if_ge (tgt := 24) (a := y3751.toInt) hk dX2_costOf_16 (by decide) rfl (fun c3755 => ?_) (fun c3755 => ?_)
    · skip
      refine g_iload_n hk dX2_costOf_24 rfl ?_
      exact g_iret hk hR rfl ⟨y3751, rfl, rfl⟩ dX2_costOf_25
    · skip
      refine g_iload_n hk dX2_costOf_19 rfl ?_
      refine g_ineg hk dX2_costOf_20 ?_
      refine g_topi (fun y3756 ey3756 => ?_)
      refine g_goto (tgt := 25) hk dX2_costOf_21 (by decide) ?_
      have b3757l := Int32.le_toInt y3756
      have b3757h := Int32.toInt_lt y3756
      exact g_iret hk hR rfl ⟨y3756, rfl, rfl⟩ dX2_costOf_25
  · skip
    refine g_iload_n hk dX2_costOf_11 rfl ?_
    refine g_iload_n hk dX2_costOf_12 rfl ?_
    have b3758l := Int32.le_toInt y3751
    have b3758h := Int32.toInt_lt y3751
    refine g_imul hk dX2_costOf_13 ?_
    refine g_topi (fun y3759 ey3759 => ?_)
    have b3760l := Int32.le_toInt y3759
    have b3760h := Int32.toInt_lt y3759
    exact g_iret hk hR rfl ⟨y3759, rfl, rfl⟩ dX2_costOf_14
def wo_k236_X2_leastAhead : List Cond := [Cond.constant RX2 93 (2147483647), Cond.fieldLink RX2 37 "WarpDesk$Fit" "band" "I", Cond.fieldLink RX2 18 "WarpDesk$Fit" "table" "[I"]
def wz_k236_X2_leastAhead : List Cond := .code yX2_leastAhead cX2_leastAhead 5 (some .int) :: (wo_k236_X2_leastAhead ++ (wsX20 ++ ([] : List Cond)))
theorem zg_k236_X2_leastAhead : ∀ w ∈ wz_k236_X2_leastAhead, goodWord w = true := zg_cons rfl (zg_app (by decide +kernel) (zg_app zgU_wsX20 zg_nil))
theorem zi_k236_X2_leastAhead : ∀ w ∈ wz_k236_X2_leastAhead, w ∈ lw_tbl := zi_cons zw_1012 (zi_app (zi_cons zw_996 (zi_cons zw_344 (zi_cons zw_339 zi_nil))) (zi_app inX2 zi_nil))
set_option maxHeartbeats 4000000 in
set_option maxRecDepth 100000 in
theorem k236_X2_leastAhead (l : Launch) (D : va_G) (zt : Nat × Nat × Nat × (Nat → Nat) × (Nat → Nat)) (q : Nat → Nat) (d : Nat → ClassId) (I : Nat → Int32) (A : Nat → Nat → Int32) (z1 : Int32) (z2 : Int32) (hIv : IvX I A) (hp0 : 0 ≤ z1.toInt) (hp1 : z1.toInt ≤ 15) (hp2 : 0 ≤ z2.toInt) (hp3 : z2.toInt ≤ 15) : GM l D zt (tyX d) yX2_leastAhead wz_k236_X2_leastAhead ({ frames := 0, cells := 0, slots := 0, locals := 0 } : Room) [.ref (q 38), .int z1, .int z2] (wX q d I A) (fun v _ w' => ∃ y0 : Int32, v = some (.int y0) ∧ w' = wX q d I A) 0 0 := by
  refine GM.of (cc := cX2_leastAhead) (maxL := 5) (ret := (some .int)) (own := RX2) (lv := [(0, .ref (q 38)), (1, .int z1), (2, .int z2)]) (by decide) rfl rfl (Nat.le_of_ble_eq_true rfl) rfl (fun κ sz hk hR hN => ?_)
  have hin2 : ∀ w ∈ u_ws RX2 TX2 10, w ∈ wz_k236_X2_leastAhead := fun w h => (List.mem_cons_of_mem _ (List.mem_append_right _ (List.mem_append_left _ h)))
  refine g_iload_n hk dX2_leastAhead_0 rfl ?_
  refine g_bipush (v := 16) hk dX2_leastAhead_1 (by decide) ?_
  refine g_imul hk dX2_leastAhead_3 ?_
  refine g_topi (fun y3763 ey3763 => ?_)
  have hy3763 : y3763.toInt = z1.toInt * 16 := i32_mul ey3763 rfl rfl (by omega) (by omega)
  refine g_iload_n hk dX2_leastAhead_4 rfl ?_
  refine g_iadd hk dX2_leastAhead_5 ?_
  refine g_topi (fun y3764 ey3764 => ?_)
  have hy3764 : y3764.toInt = y3763.toInt + z2.toInt := i32_add ey3764 rfl rfl (by omega) (by omega)
  refine g_istore_n (lv' := [(3, .int y3764), (0, .ref (q 38)), (1, .int z1), (2, .int z2)]) hk dX2_leastAhead_6 (by decide) rfl ?_
  refine g_ldc (v := 2147483647) hk (List.mem_cons_of_mem _ (List.mem_append_left _ (List.mem_of_getElem? (i := 0) rfl))) dX2_leastAhead_7 ?_
  refine g_istore (lv' := [(4, .int 2147483647), (3, .int y3764), (0, .ref (q 38)), (1, .int z1), (2, .int z2)]) hk dX2_leastAhead_9 (by decide) rfl ?_
  refine g_iload_n hk dX2_leastAhead_11 rfl ?_
  refine g_if_le (tgt := 32) (a := z1.toInt) hk dX2_leastAhead_12 (by decide) rfl (fun c3765 => ?_) (fun c3765 => ?_)
  · skip
    refine g_iload_n hk dX2_leastAhead_32 rfl ?_
    refine g_if_le (tgt := 71) (a := z1.toInt) hk dX2_leastAhead_33 (by decide) rfl (fun _ => ?_) (fun z9 => absurd (show z1.toInt ≤ 0 from by omega) z9)
    refine g_iload_n hk dX2_leastAhead_71 rfl ?_
    refine g_if_le (tgt := 108) (a := z2.toInt) hk dX2_leastAhead_72 (by decide) rfl (fun c3766 => ?_) (fun c3766 => ?_)
    · skip
      refine g_iload hk dX2_leastAhead_108 rfl ?_
      exact g_iret hk hR rfl ⟨2147483647, rfl, rfl⟩ dX2_leastAhead_110
    · skip
      refine g_iload_n hk dX2_leastAhead_75 rfl ?_
      refine g_iload_n hk dX2_leastAhead_76 rfl ?_
      refine g_isub hk dX2_leastAhead_77 ?_
      refine g_topi (fun y3767 ey3767 => ?_)
      have hy3767 : y3767.toInt = z1.toInt - z2.toInt := i32_sub ey3767 rfl rfl (by omega) (by omega)
      refine g_aload_n hk dX2_leastAhead_78 rfl ?_
      refine gX_i31 (v := (I 31)) hk hin2 (List.mem_cons_of_mem _ (List.mem_append_left _ (List.mem_of_getElem? (i := 1) rfl))) dX2_leastAhead_79 rfl ?_
      have f3768 := IvX_f31 hIv
      have b3769l := Int32.le_toInt (I 31)
      have b3769h := Int32.toInt_lt (I 31)
      refine g_icmp_ge (tgt := 108) (a := y3767.toInt) (b := (I 31).toInt) hk dX2_leastAhead_82 (by decide) rfl rfl (fun z9 => absurd z9 (show ¬ ((I 31).toInt ≤ y3767.toInt) from by omega)) (fun _ => ?_)
      refine g_aload_n hk dX2_leastAhead_85 rfl ?_
      refine gX_r38_2 hk hin2 (List.mem_cons_of_mem _ (List.mem_append_left _ (List.mem_of_getElem? (i := 2) rfl))) dX2_leastAhead_86 ?_
      refine g_iload_n hk dX2_leastAhead_89 rfl ?_
      refine g_iconst (v := 1) hk dX2_leastAhead_90 (by decide) ?_
      refine g_isub hk dX2_leastAhead_91 ?_
      refine g_topi (fun y3770 ey3770 => ?_)
      have hy3770 : y3770.toInt = y3764.toInt - 1 := i32_sub ey3770 rfl rfl (by omega) (by omega)
      refine lX_23 (v := (A 23 y3770.toNatClampNeg)) hk (vp_in_iff.mpr ⟨by omega, by omega⟩) rfl dX2_leastAhead_92 ?_
      refine g_iload hk dX2_leastAhead_93 rfl ?_
      have b3771l := Int32.le_toInt (A 23 y3770.toNatClampNeg)
      have b3771h := Int32.toInt_lt (A 23 y3770.toNatClampNeg)
      refine g_icmp_ge (tgt := 108) (a := (A 23 y3770.toNatClampNeg).toInt) (b := 2147483647) hk dX2_leastAhead_95 (by decide) rfl rfl (fun c3772 => ?_) (fun c3772 => ?_)
      · skip
        refine g_iload hk dX2_leastAhead_108 rfl ?_
        exact g_iret hk hR rfl ⟨2147483647, rfl, rfl⟩ dX2_leastAhead_110
      · skip
        refine g_aload_n hk dX2_leastAhead_98 rfl ?_
        refine gX_r38_2 hk hin2 (List.mem_cons_of_mem _ (List.mem_append_left _ (List.mem_of_getElem? (i := 2) rfl))) dX2_leastAhead_99 ?_
        refine g_iload_n hk dX2_leastAhead_102 rfl ?_
        refine g_iconst (v := 1) hk dX2_leastAhead_103 (by decide) ?_
        refine g_isub hk dX2_leastAhead_104 ?_
        refine g_topi (fun y3773 ey3773 => ?_)
        have hy3773 : y3773.toInt = y3764.toInt - 1 := i32_sub ey3773 rfl rfl (by omega) (by omega)
        refine lX_23 (v := (A 23 y3773.toNatClampNeg)) hk (vp_in_iff.mpr ⟨by omega, by omega⟩) rfl dX2_leastAhead_105 ?_
        refine g_istore (lv' := [(4, .int (A 23 y3773.toNatClampNeg)), (3, .int y3764), (0, .ref (q 38)), (1, .int z1), (2, .int z2)]) hk dX2_leastAhead_106 (by decide) rfl ?_
        refine g_iload hk dX2_leastAhead_108 rfl ?_
        have b3774l := Int32.le_toInt (A 23 y3773.toNatClampNeg)
        have b3774h := Int32.toInt_lt (A 23 y3773.toNatClampNeg)
        exact g_iret hk hR rfl ⟨(A 23 y3773.toNatClampNeg), rfl, rfl⟩ dX2_leastAhead_110
  · skip
    refine g_iload_n hk dX2_leastAhead_15 rfl ?_
    refine g_if_le (tgt := 32) (a := z2.toInt) hk dX2_leastAhead_16 (by decide) rfl (fun c3775 => ?_) (fun c3775 => ?_)
    · skip
      refine g_iload_n hk dX2_leastAhead_32 rfl ?_
      refine g_if_le (tgt := 71) (a := z1.toInt) hk dX2_leastAhead_33 (by decide) rfl (fun z9 => absurd z9 (show ¬ (z1.toInt ≤ 0) from by omega)) (fun _ => ?_)
      refine g_iload_n hk dX2_leastAhead_36 rfl ?_
      refine g_iload_n hk dX2_leastAhead_37 rfl ?_
      refine g_isub hk dX2_leastAhead_38 ?_
      refine g_topi (fun y3776 ey3776 => ?_)
      have hy3776 : y3776.toInt = z2.toInt - z1.toInt := i32_sub ey3776 rfl rfl (by omega) (by omega)
      refine g_aload_n hk dX2_leastAhead_39 rfl ?_
      refine gX_i31 (v := (I 31)) hk hin2 (List.mem_cons_of_mem _ (List.mem_append_left _ (List.mem_of_getElem? (i := 1) rfl))) dX2_leastAhead_40 rfl ?_
      have f3777 := IvX_f31 hIv
      have b3778l := Int32.le_toInt (I 31)
      have b3778h := Int32.toInt_lt (I 31)
      refine g_icmp_ge (tgt := 71) (a := y3776.toInt) (b := (I 31).toInt) hk dX2_leastAhead_43 (by decide) rfl rfl (fun z9 => absurd z9 (show ¬ ((I 31).toInt ≤ y3776.toInt) from by omega)) (fun _ => ?_)
      refine g_aload_n hk dX2_leastAhead_46 rfl ?_
      refine gX_r38_2 hk hin2 (List.mem_cons_of_mem _ (List.mem_append_left _ (List.mem_of_getElem? (i := 2) rfl))) dX2_leastAhead_47 ?_
      refine g_iload_n hk dX2_leastAhead_50 rfl ?_
      refine g_bipush (v := 16) hk dX2_leastAhead_51 (by decide) ?_
      refine g_isub hk dX2_leastAhead_53 ?_
      refine g_topi (fun y3779 ey3779 => ?_)
      have hy3779 : y3779.toInt = y3764.toInt - 16 := i32_sub ey3779 rfl rfl (by omega) (by omega)
      refine lX_23 (v := (A 23 y3779.toNatClampNeg)) hk (vp_in_iff.mpr ⟨by omega, by omega⟩) rfl dX2_leastAhead_54 ?_
      refine g_iload hk dX2_leastAhead_55 rfl ?_
      have b3780l := Int32.le_toInt (A 23 y3779.toNatClampNeg)
      have b3780h := Int32.toInt_lt (A 23 y3779.toNatClampNeg)
      refine g_icmp_ge (tgt := 71) (a := (A 23 y3779.toNatClampNeg).toInt) (b := 2147483647) hk dX2_leastAhead_57 (by decide) rfl rfl (fun c3781 => ?_) (fun c3781 => ?_)
      · skip
        refine g_iload_n hk dX2_leastAhead_71 rfl ?_
        refine g_if_le (tgt := 108) (a := z2.toInt) hk dX2_leastAhead_72 (by decide) rfl (fun _ => ?_) (fun z9 => absurd (show z2.toInt ≤ 0 from by omega) z9)
        refine g_iload hk dX2_leastAhead_108 rfl ?_
        exact g_iret hk hR rfl ⟨2147483647, rfl, rfl⟩ dX2_leastAhead_110
      · skip
        refine g_aload_n hk dX2_leastAhead_60 rfl ?_
        refine gX_r38_2 hk hin2 (List.mem_cons_of_mem _ (List.mem_append_left _ (List.mem_of_getElem? (i := 2) rfl))) dX2_leastAhead_61 ?_
        refine g_iload_n hk dX2_leastAhead_64 rfl ?_
        refine g_bipush (v := 16) hk dX2_leastAhead_65 (by decide) ?_
        refine g_isub hk dX2_leastAhead_67 ?_
        refine g_topi (fun y3782 ey3782 => ?_)
        have hy3782 : y3782.toInt = y3764.toInt - 16 := i32_sub ey3782 rfl rfl (by omega) (by omega)
        refine lX_23 (v := (A 23 y3782.toNatClampNeg)) hk (vp_in_iff.mpr ⟨by omega, by omega⟩) rfl dX2_leastAhead_68 ?_
        refine g_istore (lv' := [(4, .int (A 23 y3782.toNatClampNeg)), (3, .int y3764), (0, .ref (q 38)), (1, .int z1), (2, .int z2)]) hk dX2_leastAhead_69 (by decide) rfl ?_
        refine g_iload_n hk dX2_leastAhead_71 rfl ?_
        refine g_if_le (tgt := 108) (a := z2.toInt) hk dX2_leastAhead_72 (by decide) rfl (fun _ => ?_) (fun z9 => absurd (show z2.toInt ≤ 0 from by omega) z9)
        refine g_iload hk dX2_leastAhead_108 rfl ?_
        have b3783l := Int32.le_toInt (A 23 y3782.toNatClampNeg)
        have b3783h := Int32.toInt_lt (A 23 y3782.toNatClampNeg)
        exact g_iret hk hR rfl ⟨(A 23 y3782.toNatClampNeg), rfl, rfl⟩ dX2_leastAhead_110
    · skip
      refine g_aload_n hk dX2_leastAhead_19 rfl ?_
      refine gX_r38_2 hk hin2 (List.mem_cons_of_mem _ (List.mem_append_left _ (List.mem_of_getElem? (i := 2) rfl))) dX2_leastAhead_20 ?_
      refine g_iload_n hk dX2_leastAhead_23 rfl ?_
      refine g_bipush (v := 16) hk dX2_leastAhead_24 (by decide) ?_
      refine g_isub hk dX2_leastAhead_26 ?_
      refine g_topi (fun y3784 ey3784 => ?_)
      have hy3784 : y3784.toInt = y3764.toInt - 16 := i32_sub ey3784 rfl rfl (by omega) (by omega)
      refine g_iconst (v := 1) hk dX2_leastAhead_27 (by decide) ?_
      refine g_isub hk dX2_leastAhead_28 ?_
      refine g_topi (fun y3785 ey3785 => ?_)
      have hy3785 : y3785.toInt = y3784.toInt - 1 := i32_sub ey3785 rfl rfl (by omega) (by omega)
      refine lX_23 (v := (A 23 y3785.toNatClampNeg)) hk (vp_in_iff.mpr ⟨by omega, by omega⟩) rfl dX2_leastAhead_29 ?_
      refine g_istore (lv' := [(4, .int (A 23 y3785.toNatClampNeg)), (3, .int y3764), (0, .ref (q 38)), (1, .int z1), (2, .int z2)]) hk dX2_leastAhead_30 (by decide) rfl ?_
      refine g_iload_n hk dX2_leastAhead_32 rfl ?_
      refine g_if_le (tgt := 71) (a := z1.toInt) hk dX2_leastAhead_33 (by decide) rfl (fun z9 => absurd z9 (show ¬ (z1.toInt ≤ 0) from by omega)) (fun _ => ?_)
      refine g_iload_n hk dX2_leastAhead_36 rfl ?_
      refine g_iload_n hk dX2_leastAhead_37 rfl ?_
      refine g_isub hk dX2_leastAhead_38 ?_
      refine g_topi (fun y3786 ey3786 => ?_)
      have hy3786 : y3786.toInt = z2.toInt - z1.toInt := i32_sub ey3786 rfl rfl (by omega) (by omega)
      refine g_aload_n hk dX2_leastAhead_39 rfl ?_
      refine gX_i31 (v := (I 31)) hk hin2 (List.mem_cons_of_mem _ (List.mem_append_left _ (List.mem_of_getElem? (i := 1) rfl))) dX2_leastAhead_40 rfl ?_
      have f3787 := IvX_f31 hIv
      have b3788l := Int32.le_toInt (I 31)
      have b3788h := Int32.toInt_lt (I 31)
      refine g_icmp_ge (tgt := 71) (a := y3786.toInt) (b := (I 31).toInt) hk dX2_leastAhead_43 (by decide) rfl rfl (fun c3789 => ?_) (fun c3789 => ?_)
      · skip
        refine g_iload_n hk dX2_leastAhead_71 rfl ?_
        refine g_if_le (tgt := 108) (a := z2.toInt) hk dX2_leastAhead_72 (by decide) rfl (fun z9 => absurd z9 (show ¬ (z2.toInt ≤ 0) from by omega)) (fun _ => ?_)
        refine g_iload_n hk dX2_leastAhead_75 rfl ?_
        refine g_iload_n hk dX2_leastAhead_76 rfl ?_
        refine g_isub hk dX2_leastAhead_77 ?_
        refine g_topi (fun y3790 ey3790 => ?_)
        have hy3790 : y3790.toInt = z1.toInt - z2.toInt := i32_sub ey3790 rfl rfl (by omega) (by omega)
        refine g_aload_n hk dX2_leastAhead_78 rfl ?_
        refine gX_i31 (v := (I 31)) hk hin2 (List.mem_cons_of_mem _ (List.mem_append_left _ (List.mem_of_getElem? (i := 1) rfl))) dX2_leastAhead_79 rfl ?_
        refine g_icmp_ge (tgt := 108) (a := y3790.toInt) (b := (I 31).toInt) hk dX2_leastAhead_82 (by decide) rfl rfl (fun c3791 => ?_) (fun c3791 => ?_)
        · skip
          refine g_iload hk dX2_leastAhead_108 rfl ?_
          have b3792l := Int32.le_toInt (A 23 y3785.toNatClampNeg)
          have b3792h := Int32.toInt_lt (A 23 y3785.toNatClampNeg)
          exact g_iret hk hR rfl ⟨(A 23 y3785.toNatClampNeg), rfl, rfl⟩ dX2_leastAhead_110
        · skip
          refine g_aload_n hk dX2_leastAhead_85 rfl ?_
          refine gX_r38_2 hk hin2 (List.mem_cons_of_mem _ (List.mem_append_left _ (List.mem_of_getElem? (i := 2) rfl))) dX2_leastAhead_86 ?_
          refine g_iload_n hk dX2_leastAhead_89 rfl ?_
          refine g_iconst (v := 1) hk dX2_leastAhead_90 (by decide) ?_
          refine g_isub hk dX2_leastAhead_91 ?_
          refine g_topi (fun y3793 ey3793 => ?_)
          have hy3793 : y3793.toInt = y3764.toInt - 1 := i32_sub ey3793 rfl rfl (by omega) (by omega)
          refine lX_23 (v := (A 23 y3793.toNatClampNeg)) hk (vp_in_iff.mpr ⟨by omega, by omega⟩) rfl dX2_leastAhead_92 ?_
          refine g_iload hk dX2_leastAhead_93 rfl ?_
          have b3794l := Int32.le_toInt (A 23 y3793.toNatClampNeg)
          have b3794h := Int32.toInt_lt (A 23 y3793.toNatClampNeg)
          have b3795l := Int32.le_toInt (A 23 y3785.toNatClampNeg)
          have b3795h := Int32.toInt_lt (A 23 y3785.toNatClampNeg)
          refine g_icmp_ge (tgt := 108) (a := (A 23 y3793.toNatClampNeg).toInt) (b := (A 23 y3785.toNatClampNeg).toInt) hk dX2_leastAhead_95 (by decide) rfl rfl (fun c3796 => ?_) (fun c3796 => ?_)
          · skip
            refine g_iload hk dX2_leastAhead_108 rfl ?_
            exact g_iret hk hR rfl ⟨(A 23 y3785.toNatClampNeg), rfl, rfl⟩ dX2_leastAhead_110
          · skip
            refine g_aload_n hk dX2_leastAhead_98 rfl ?_
            refine gX_r38_2 hk hin2 (List.mem_cons_of_mem _ (List.mem_append_left _ (List.mem_of_getElem? (i := 2) rfl))) dX2_leastAhead_99 ?_
            refine g_iload_n hk dX2_leastAhead_102 rfl ?_
            refine g_iconst (v := 1) hk dX2_leastAhead_103 (by decide) ?_
            refine g_isub hk dX2_leastAhead_104 ?_
            refine g_topi (fun y3797 ey3797 => ?_)
            have hy3797 : y3797.toInt = y3764.toInt - 1 := i32_sub ey3797 rfl rfl (by omega) (by omega)
            refine lX_23 (v := (A 23 y3797.toNatClampNeg)) hk (vp_in_iff.mpr ⟨by omega, by omega⟩) rfl dX2_leastAhead_105 ?_
            refine g_istore (lv' := [(4, .int (A 23 y3797.toNatClampNeg)), (3, .int y3764), (0, .ref (q 38)), (1, .int z1), (2, .int z2)]) hk dX2_leastAhead_106 (by decide) rfl ?_
            refine g_iload hk dX2_leastAhead_108 rfl ?_
            have b3798l := Int32.le_toInt (A 23 y3797.toNatClampNeg)
            have b3798h := Int32.toInt_lt (A 23 y3797.toNatClampNeg)
            exact g_iret hk hR rfl ⟨(A 23 y3797.toNatClampNeg), rfl, rfl⟩ dX2_leastAhead_110
      · skip
        refine g_aload_n hk dX2_leastAhead_46 rfl ?_
        refine gX_r38_2 hk hin2 (List.mem_cons_of_mem _ (List.mem_append_left _ (List.mem_of_getElem? (i := 2) rfl))) dX2_leastAhead_47 ?_
        refine g_iload_n hk dX2_leastAhead_50 rfl ?_
        refine g_bipush (v := 16) hk dX2_leastAhead_51 (by decide) ?_
        refine g_isub hk dX2_leastAhead_53 ?_
        refine g_topi (fun y3799 ey3799 => ?_)
        have hy3799 : y3799.toInt = y3764.toInt - 16 := i32_sub ey3799 rfl rfl (by omega) (by omega)
        refine lX_23 (v := (A 23 y3799.toNatClampNeg)) hk (vp_in_iff.mpr ⟨by omega, by omega⟩) rfl dX2_leastAhead_54 ?_
        refine g_iload hk dX2_leastAhead_55 rfl ?_
        have b3800l := Int32.le_toInt (A 23 y3799.toNatClampNeg)
        have b3800h := Int32.toInt_lt (A 23 y3799.toNatClampNeg)
        have b3801l := Int32.le_toInt (A 23 y3785.toNatClampNeg)
        have b3801h := Int32.toInt_lt (A 23 y3785.toNatClampNeg)
        refine g_icmp_ge (tgt := 71) (a := (A 23 y3799.toNatClampNeg).toInt) (b := (A 23 y3785.toNatClampNeg).toInt) hk dX2_leastAhead_57 (by decide) rfl rfl (fun c3802 => ?_) (fun c3802 => ?_)
        · skip
          refine g_iload_n hk dX2_leastAhead_71 rfl ?_
          refine g_if_le (tgt := 108) (a := z2.toInt) hk dX2_leastAhead_72 (by decide) rfl (fun z9 => absurd z9 (show ¬ (z2.toInt ≤ 0) from by omega)) (fun _ => ?_)
          refine g_iload_n hk dX2_leastAhead_75 rfl ?_
          refine g_iload_n hk dX2_leastAhead_76 rfl ?_
          refine g_isub hk dX2_leastAhead_77 ?_
          refine g_topi (fun y3803 ey3803 => ?_)
          have hy3803 : y3803.toInt = z1.toInt - z2.toInt := i32_sub ey3803 rfl rfl (by omega) (by omega)
          refine g_aload_n hk dX2_leastAhead_78 rfl ?_
          refine gX_i31 (v := (I 31)) hk hin2 (List.mem_cons_of_mem _ (List.mem_append_left _ (List.mem_of_getElem? (i := 1) rfl))) dX2_leastAhead_79 rfl ?_
          refine g_icmp_ge (tgt := 108) (a := y3803.toInt) (b := (I 31).toInt) hk dX2_leastAhead_82 (by decide) rfl rfl (fun c3804 => ?_) (fun c3804 => ?_)
          · skip
            refine g_iload hk dX2_leastAhead_108 rfl ?_
            exact g_iret hk hR rfl ⟨(A 23 y3785.toNatClampNeg), rfl, rfl⟩ dX2_leastAhead_110
          · skip
            refine g_aload_n hk dX2_leastAhead_85 rfl ?_
            refine gX_r38_2 hk hin2 (List.mem_cons_of_mem _ (List.mem_append_left _ (List.mem_of_getElem? (i := 2) rfl))) dX2_leastAhead_86 ?_
            refine g_iload_n hk dX2_leastAhead_89 rfl ?_
            refine g_iconst (v := 1) hk dX2_leastAhead_90 (by decide) ?_
            refine g_isub hk dX2_leastAhead_91 ?_
            refine g_topi (fun y3805 ey3805 => ?_)
            have hy3805 : y3805.toInt = y3764.toInt - 1 := i32_sub ey3805 rfl rfl (by omega) (by omega)
            refine lX_23 (v := (A 23 y3805.toNatClampNeg)) hk (vp_in_iff.mpr ⟨by omega, by omega⟩) rfl dX2_leastAhead_92 ?_
            refine g_iload hk dX2_leastAhead_93 rfl ?_
            have b3806l := Int32.le_toInt (A 23 y3805.toNatClampNeg)
            have b3806h := Int32.toInt_lt (A 23 y3805.toNatClampNeg)
            refine g_icmp_ge (tgt := 108) (a := (A 23 y3805.toNatClampNeg).toInt) (b := (A 23 y3785.toNatClampNeg).toInt) hk dX2_leastAhead_95 (by decide) rfl rfl (fun c3807 => ?_) (fun c3807 => ?_)
            · skip
              refine g_iload hk dX2_leastAhead_108 rfl ?_
              exact g_iret hk hR rfl ⟨(A 23 y3785.toNatClampNeg), rfl, rfl⟩ dX2_leastAhead_110
            · skip
              refine g_aload_n hk dX2_leastAhead_98 rfl ?_
              refine gX_r38_2 hk hin2 (List.mem_cons_of_mem _ (List.mem_append_left _ (List.mem_of_getElem? (i := 2) rfl))) dX2_leastAhead_99 ?_
              refine g_iload_n hk dX2_leastAhead_102 rfl ?_
              refine g_iconst (v := 1) hk dX2_leastAhead_103 (by decide) ?_
              refine g_isub hk dX2_leastAhead_104 ?_
              refine g_topi (fun y3808 ey3808 => ?_)
              have hy3808 : y3808.toInt = y3764.toInt - 1 := i32_sub ey3808 rfl rfl (by omega) (by omega)
              refine lX_23 (v := (A 23 y3808.toNatClampNeg)) hk (vp_in_iff.mpr ⟨by omega, by omega⟩) rfl dX2_leastAhead_105 ?_
              refine g_istore (lv' := [(4, .int (A 23 y3808.toNatClampNeg)), (3, .int y3764), (0, .ref (q 38)), (1, .int z1), (2, .int z2)]) hk dX2_leastAhead_106 (by decide) rfl ?_
              refine g_iload hk dX2_leastAhead_108 rfl ?_
              have b3809l := Int32.le_toInt (A 23 y3808.toNatClampNeg)
              have b3809h := Int32.toInt_lt (A 23 y3808.toNatClampNeg)
              exact g_iret hk hR rfl ⟨(A 23 y3808.toNatClampNeg), rfl, rfl⟩ dX2_leastAhead_110
        · skip
          refine g_aload_n hk dX2_leastAhead_60 rfl ?_
          refine gX_r38_2 hk hin2 (List.mem_cons_of_mem _ (List.mem_append_left _ (List.mem_of_getElem? (i := 2) rfl))) dX2_leastAhead_61 ?_
          refine g_iload_n hk dX2_leastAhead_64 rfl ?_
          refine g_bipush (v := 16) hk dX2_leastAhead_65 (by decide) ?_
          refine g_isub hk dX2_leastAhead_67 ?_
          refine g_topi (fun y3810 ey3810 => ?_)
          have hy3810 : y3810.toInt = y3764.toInt - 16 := i32_sub ey3810 rfl rfl (by omega) (by omega)
          refine lX_23 (v := (A 23 y3810.toNatClampNeg)) hk (vp_in_iff.mpr ⟨by omega, by omega⟩) rfl dX2_leastAhead_68 ?_
          refine g_istore (lv' := [(4, .int (A 23 y3810.toNatClampNeg)), (3, .int y3764), (0, .ref (q 38)), (1, .int z1), (2, .int z2)]) hk dX2_leastAhead_69 (by decide) rfl ?_
          refine g_iload_n hk dX2_leastAhead_71 rfl ?_
          refine g_if_le (tgt := 108) (a := z2.toInt) hk dX2_leastAhead_72 (by decide) rfl (fun z9 => absurd z9 (show ¬ (z2.toInt ≤ 0) from by omega)) (fun _ => ?_)
          refine g_iload_n hk dX2_leastAhead_75 rfl ?_
          refine g_iload_n hk dX2_leastAhead_76 rfl ?_
          refine g_isub hk dX2_leastAhead_77 ?_
          refine g_topi (fun y3811 ey3811 => ?_)
          have hy3811 : y3811.toInt = z1.toInt - z2.toInt := i32_sub ey3811 rfl rfl (by omega) (by omega)
          refine g_aload_n hk dX2_leastAhead_78 rfl ?_
          refine gX_i31 (v := (I 31)) hk hin2 (List.mem_cons_of_mem _ (List.mem_append_left _ (List.mem_of_getElem? (i := 1) rfl))) dX2_leastAhead_79 rfl ?_
          refine g_icmp_ge (tgt := 108) (a := y3811.toInt) (b := (I 31).toInt) hk dX2_leastAhead_82 (by decide) rfl rfl (fun c3812 => ?_) (fun c3812 => ?_)
          · skip
            refine g_iload hk dX2_leastAhead_108 rfl ?_
            have b3813l := Int32.le_toInt (A 23 y3810.toNatClampNeg)
            have b3813h := Int32.toInt_lt (A 23 y3810.toNatClampNeg)
            exact g_iret hk hR rfl ⟨(A 23 y3810.toNatClampNeg), rfl, rfl⟩ dX2_leastAhead_110
          · skip
            refine g_aload_n hk dX2_leastAhead_85 rfl ?_
            refine gX_r38_2 hk hin2 (List.mem_cons_of_mem _ (List.mem_append_left _ (List.mem_of_getElem? (i := 2) rfl))) dX2_leastAhead_86 ?_
            refine g_iload_n hk dX2_leastAhead_89 rfl ?_
            refine g_iconst (v := 1) hk dX2_leastAhead_90 (by decide) ?_
            refine g_isub hk dX2_leastAhead_91 ?_
            refine g_topi (fun y3814 ey3814 => ?_)
            have hy3814 : y3814.toInt = y3764.toInt - 1 := i32_sub ey3814 rfl rfl (by omega) (by omega)
            refine lX_23 (v := (A 23 y3814.toNatClampNeg)) hk (vp_in_iff.mpr ⟨by omega, by omega⟩) rfl dX2_leastAhead_92 ?_
            refine g_iload hk dX2_leastAhead_93 rfl ?_
            have b3815l := Int32.le_toInt (A 23 y3814.toNatClampNeg)
            have b3815h := Int32.toInt_lt (A 23 y3814.toNatClampNeg)
            have b3816l := Int32.le_toInt (A 23 y3810.toNatClampNeg)
            have b3816h := Int32.toInt_lt (A 23 y3810.toNatClampNeg)
            refine g_icmp_ge (tgt := 108) (a := (A 23 y3814.toNatClampNeg).toInt) (b := (A 23 y3810.toNatClampNeg).toInt) hk dX2_leastAhead_95 (by decide) rfl rfl (fun c3817 => ?_) (fun c3817 => ?_)
            · skip
              refine g_iload hk dX2_leastAhead_108 rfl ?_
              exact g_iret hk hR rfl ⟨(A 23 y3810.toNatClampNeg), rfl, rfl⟩ dX2_leastAhead_110
            · skip
              refine g_aload_n hk dX2_leastAhead_98 rfl ?_
              refine gX_r38_2 hk hin2 (List.mem_cons_of_mem _ (List.mem_append_left _ (List.mem_of_getElem? (i := 2) rfl))) dX2_leastAhead_99 ?_
              refine g_iload_n hk dX2_leastAhead_102 rfl ?_
              refine g_iconst (v := 1) hk dX2_leastAhead_103 (by decide) ?_
              refine g_isub hk dX2_leastAhead_104 ?_
              refine g_topi (fun y3818 ey3818 => ?_)
              have hy3818 : y3818.toInt = y3764.toInt - 1 := i32_sub ey3818 rfl rfl (by omega) (by omega)
              refine lX_23 (v := (A 23 y3818.toNatClampNeg)) hk (vp_in_iff.mpr ⟨by omega, by omega⟩) rfl dX2_leastAhead_105 ?_
              refine g_istore (lv' := [(4, .int (A 23 y3818.toNatClampNeg)), (3, .int y3764), (0, .ref (q 38)), (1, .int z1), (2, .int z2)]) hk dX2_leastAhead_106 (by decide) rfl ?_
              refine g_iload hk dX2_leastAhead_108 rfl ?_
              have b3819l := Int32.le_toInt (A 23 y3818.toNatClampNeg)
              have b3819h := Int32.toInt_lt (A 23 y3818.toNatClampNeg)
              exact g_iret hk hR rfl ⟨(A 23 y3818.toNatClampNeg), rfl, rfl⟩ dX2_leastAhead_110
def wo_k234_X2_layRow : List Cond := [Cond.fieldLink RX2 37 "WarpDesk$Fit" "band" "I", Cond.methodLink RX2 34 Lib.Math.max.name, Cond.static Lib.Math.max.name, Cond.initialized "java/lang/Math", Cond.code Lib.Math.max.name Lib.Math.max.code 2 (some .int), Cond.fieldLink RX2 24 "WarpDesk$Fit" "length" "I", Cond.methodLink RX2 28 Lib.Math.min.name, Cond.static Lib.Math.min.name, Cond.code Lib.Math.min.name Lib.Math.min.code 2 (some .int), Cond.constant RX2 93 (2147483647), Cond.fieldLink RX2 76 "WarpDesk$Fit" "cells" "I", Cond.fieldLink RX2 9 "WarpDesk$Fit" "left" "[I", Cond.fieldLink RX2 15 "WarpDesk$Fit" "right" "[I", Cond.methodLink RX2 65 yX2_costOf, Cond.instanceMethod yX2_costOf, Cond.selects RX2 yX2_costOf yX2_costOf, Cond.initialized RX2, Cond.methodLink RX2 98 yX2_leastAhead, Cond.instanceMethod yX2_leastAhead, Cond.selects RX2 yX2_leastAhead yX2_leastAhead, Cond.fieldLink RX2 18 "WarpDesk$Fit" "table" "[I"]
def wz_k234_X2_layRow : List Cond := .code yX2_layRow cX2_layRow 7 (some .int) :: (wo_k234_X2_layRow ++ (wsX20 ++ (wz_k235_X2_costOf ++ (wz_k236_X2_leastAhead ++ ([] : List Cond)))))
theorem zg_k234_X2_layRow : ∀ w ∈ wz_k234_X2_layRow, goodWord w = true := zg_cons rfl (zg_app (by decide +kernel) (zg_app zgU_wsX20 (zg_app zg_k235_X2_costOf (zg_app zg_k236_X2_leastAhead zg_nil))))
theorem zi_k234_X2_layRow : ∀ w ∈ wz_k234_X2_layRow, w ∈ lw_tbl := zi_cons zw_1004 (zi_app (zi_cons zw_344 (zi_cons zw_943 (zi_cons zw_920 (zi_cons zw_120 (zi_cons zw_921 (zi_cons zw_343 (zi_cons zw_942 (zi_cons zw_829 (zi_cons zw_830 (zi_cons zw_996 (zi_cons zw_347 (zi_cons zw_334 (zi_cons zw_337 (zi_cons zw_1005 (zi_cons zw_1007 (zi_cons zw_30 (zi_cons zw_112 (zi_cons zw_1009 (zi_cons zw_1011 (zi_cons zw_31 (zi_cons zw_339 zi_nil))))))))))))))))))))) (zi_app inX2 (zi_app zi_k235_X2_costOf (zi_app zi_k236_X2_leastAhead zi_nil))))
set_option maxHeartbeats 4000000 in
set_option maxRecDepth 100000 in
theorem k234_X2_layRow (l : Launch) (D : va_G) (zt : Nat × Nat × Nat × (Nat → Nat) × (Nat → Nat)) (q : Nat → Nat) (d : Nat → ClassId) (I : Nat → Int32) (A : Nat → Nat → Int32) (z1 : Int32) (hIv : IvX I A) (hp0 : 0 ≤ z1.toInt) (hp1 : z1.toInt ≤ 15) : GM l D zt (tyX d) yX2_layRow wz_k234_X2_layRow ({ frames := 1, cells := 0, slots := 0, locals := 24 } : Room) [.ref (q 38), .int z1] (wX q d I A) (fun v _ w' => ∃ (I' : Nat → Int32) (A' : Nat → Nat → Int32), Md [33] I I' ∧ Md [23] A A' ∧ IvX I' A' ∧ ∃ y0 : Int32, v = some (.int y0) ∧ w' = wX q d I' A') 0 0 := by
  refine GM.of (cc := cX2_layRow) (maxL := 7) (ret := (some .int)) (own := RX2) (lv := [(0, .ref (q 38)), (1, .int z1)]) (by decide) rfl rfl (Nat.le_of_ble_eq_true rfl) rfl (fun κ sz hk hR hN => ?_)
  have hin2 : ∀ w ∈ u_ws RX2 TX2 10, w ∈ wz_k234_X2_layRow := fun w h => (List.mem_cons_of_mem _ (List.mem_append_right _ (List.mem_append_left _ h)))
  refine g_iconst (v := 0) hk dX2_layRow_0 (by decide) ?_
  refine g_iload_n hk dX2_layRow_1 rfl ?_
  refine g_aload_n hk dX2_layRow_2 rfl ?_
  refine gX_i31 (v := (I 31)) hk hin2 (List.mem_cons_of_mem _ (List.mem_append_left _ (List.mem_of_getElem? (i := 0) rfl))) dX2_layRow_3 rfl ?_
  have f3724 := IvX_f31 hIv
  have b3725l := Int32.le_toInt (I 31)
  have b3725h := Int32.toInt_lt (I 31)
  refine g_isub hk dX2_layRow_6 ?_
  refine g_topi (fun y3726 ey3726 => ?_)
  have hy3726 : y3726.toInt = z1.toInt - (I 31).toInt := i32_sub ey3726 rfl rfl (by omega) (by omega)
  refine g_mmax hk (List.mem_cons_of_mem _ (List.mem_append_left _ (List.mem_of_getElem? (i := 1) rfl))) (List.mem_cons_of_mem _ (List.mem_append_left _ (List.mem_of_getElem? (i := 2) rfl))) (List.mem_cons_of_mem _ (List.mem_append_left _ (List.mem_of_getElem? (i := 3) rfl))) (List.mem_cons_of_mem _ (List.mem_append_left _ (List.mem_of_getElem? (i := 4) rfl))) (Nat.le_of_ble_eq_true rfl) (Nat.le_of_ble_eq_true rfl) (Nat.le_of_ble_eq_true rfl) (Nat.le_of_ble_eq_true rfl) dX2_layRow_7 ?_
  refine g_topi (fun y3727 ey3727 => ?_)
  have k3728 : (0 : Int32).toInt = 0 := rfl
  have hy3727 := i32_max ey3727
  refine g_istore_n (lv' := [(2, .int y3727), (0, .ref (q 38)), (1, .int z1)]) hk dX2_layRow_10 (by decide) rfl ?_
  refine g_aload_n hk dX2_layRow_11 rfl ?_
  refine gX_i30 (v := (I 30)) hk hin2 (List.mem_cons_of_mem _ (List.mem_append_left _ (List.mem_of_getElem? (i := 5) rfl))) dX2_layRow_12 rfl ?_
  have f3729 := IvX_f30 hIv
  refine g_iconst (v := 1) hk dX2_layRow_15 (by decide) ?_
  refine g_isub hk dX2_layRow_16 ?_
  refine g_topi (fun y3730 ey3730 => ?_)
  have hy3730 : y3730.toInt = (I 30).toInt - 1 := i32_sub ey3730 rfl rfl (by omega) (by omega)
  refine g_iload_n hk dX2_layRow_17 rfl ?_
  refine g_aload_n hk dX2_layRow_18 rfl ?_
  refine gX_i31 (v := (I 31)) hk hin2 (List.mem_cons_of_mem _ (List.mem_append_left _ (List.mem_of_getElem? (i := 0) rfl))) dX2_layRow_19 rfl ?_
  refine g_iadd hk dX2_layRow_22 ?_
  refine g_topi (fun y3731 ey3731 => ?_)
  have b3732l := Int32.le_toInt y3731
  have b3732h := Int32.toInt_lt y3731
  refine g_mmin hk (List.mem_cons_of_mem _ (List.mem_append_left _ (List.mem_of_getElem? (i := 6) rfl))) (List.mem_cons_of_mem _ (List.mem_append_left _ (List.mem_of_getElem? (i := 7) rfl))) (List.mem_cons_of_mem _ (List.mem_append_left _ (List.mem_of_getElem? (i := 3) rfl))) (List.mem_cons_of_mem _ (List.mem_append_left _ (List.mem_of_getElem? (i := 8) rfl))) (Nat.le_of_ble_eq_true rfl) (Nat.le_of_ble_eq_true rfl) (Nat.le_of_ble_eq_true rfl) (Nat.le_of_ble_eq_true rfl) dX2_layRow_23 ?_
  refine g_topi (fun y3733 ey3733 => ?_)
  have hy3733 := i32_min ey3733
  refine g_istore_n (lv' := [(3, .int y3733), (2, .int y3727), (0, .ref (q 38)), (1, .int z1)]) hk dX2_layRow_26 (by decide) rfl ?_
  refine g_ldc (v := 2147483647) hk (List.mem_cons_of_mem _ (List.mem_append_left _ (List.mem_of_getElem? (i := 9) rfl))) dX2_layRow_27 ?_
  refine g_istore (lv' := [(4, .int 2147483647), (3, .int y3733), (2, .int y3727), (0, .ref (q 38)), (1, .int z1)]) hk dX2_layRow_29 (by decide) rfl ?_
  refine g_iload_n hk dX2_layRow_31 rfl ?_
  refine g_istore (lv' := [(5, .int y3727), (4, .int 2147483647), (3, .int y3733), (2, .int y3727), (0, .ref (q 38)), (1, .int z1)]) hk dX2_layRow_32 (by decide) rfl ?_
  have lp3889 : ∀ (n3890 : Nat) (x3734 : Int32) (x3735 : Int32) (I3740 : Nat → Int32) (A3740 : Nat → Nat → Int32), (Md [] I I3740) → (Md [23] A A3740) → (IvX I3740 A3740) → (0 ≤ x3734.toInt) → (x3734.toInt ≤ 16) → (16 - x3734.toInt < (n3890 : Int)) → (0 < n3890) → GW κ 7 0 0 (wX q d I3740 A3740) 34 [(5, .int x3734), (4, .int x3735), (3, .int y3733), (2, .int y3727), (0, .ref (q 38)), (1, .int z1)] [] := by
    intro n3890
    induction n3890 with
    | zero =>
      intro x3734 x3735 I3740 A3740 hI3740 hA3740 hV3740 h3887 h3888 m3891 m3891z
      exact absurd m3891z (Nat.lt_irrefl 0)
    | succ n3890 ih =>
      intro x3734 x3735 I3740 A3740 hI3740 hA3740 hV3740 h3887 h3888 m3891 m3891z
      refine g_iload hk dX2_layRow_34 rfl ?_
      refine g_iload_n hk dX2_layRow_36 rfl ?_
      have b3892l := Int32.le_toInt y3733
      have b3892h := Int32.toInt_lt y3733
      refine g_icmp_gt (tgt := 111) (a := x3734.toInt) (b := y3733.toInt) hk dX2_layRow_37 (by decide) rfl rfl (fun c3893 => ?_) (fun c3893 => ?_)
      · skip
        refine g_aload_n hk dX2_layRow_111 rfl ?_
        refine g_dup hk dX2_layRow_112 rfl ?_
        refine gX_i33 (v := (I 33)) hk hin2 (List.mem_cons_of_mem _ (List.mem_append_left _ (List.mem_of_getElem? (i := 10) rfl))) dX2_layRow_113 (hI3740 33 rfl) ?_
        refine g_iload_n hk dX2_layRow_116 rfl ?_
        refine g_iload_n hk dX2_layRow_117 rfl ?_
        refine g_isub hk dX2_layRow_118 ?_
        refine g_topi (fun y3894 ey3894 => ?_)
        have hy3894 := i32_sub0 ey3894
        refine g_iconst (v := 1) hk dX2_layRow_119 (by decide) ?_
        have b3895l := Int32.le_toInt y3894
        have b3895h := Int32.toInt_lt y3894
        refine g_iadd hk dX2_layRow_120 ?_
        refine g_topi (fun y3896 ey3896 => ?_)
        have b3897l := Int32.le_toInt (I 33)
        have b3897h := Int32.toInt_lt (I 33)
        have b3898l := Int32.le_toInt y3896
        have b3898h := Int32.toInt_lt y3896
        refine g_iadd hk dX2_layRow_121 ?_
        refine g_topi (fun y3899 ey3899 => ?_)
        refine pX_i33 hk hin2 (List.mem_cons_of_mem _ (List.mem_append_left _ (List.mem_of_getElem? (i := 10) rfl))) dX2_layRow_122 ?_
        refine g_iload hk dX2_layRow_125 rfl ?_
        have b3900l := Int32.le_toInt x3735
        have b3900h := Int32.toInt_lt x3735
        exact g_iret hk hR rfl ⟨(upd I3740 33 y3899), A3740, (show Md [33] I (upd I3740 33 y3899) from (Md.up (Md.tr Md.rf hI3740 rfl) rfl)), (show Md [23] A A3740 from (Md.tr Md.rf hA3740 rfl)), ⟨(IvX_f0 (I := I3740) (A := A3740) hV3740), (IvX_f18 (I := I3740) (A := A3740) hV3740), (IvX_f30 (I := I3740) (A := A3740) hV3740), (IvX_f31 (I := I3740) (A := A3740) hV3740), (IvX_a4 (I := I3740) (A := A3740) hV3740), (IvX_a9 (I := I3740) (A := A3740) hV3740), trivial⟩, x3735, rfl, rfl⟩ dX2_layRow_127
      · skip
        refine g_aload_n hk dX2_layRow_40 rfl ?_
        refine g_aload_n hk dX2_layRow_41 rfl ?_
        refine gX_r38_0 hk hin2 (List.mem_cons_of_mem _ (List.mem_append_left _ (List.mem_of_getElem? (i := 11) rfl))) dX2_layRow_42 ?_
        refine g_iload_n hk dX2_layRow_45 rfl ?_
        refine lX_21 (v := (A 21 z1.toNatClampNeg)) hk (vp_in_iff.mpr ⟨by omega, by omega⟩) (congrFun (hA3740 21 rfl) _) dX2_layRow_46 ?_
        refine g_aload_n hk dX2_layRow_47 rfl ?_
        refine gX_r38_1 hk hin2 (List.mem_cons_of_mem _ (List.mem_append_left _ (List.mem_of_getElem? (i := 12) rfl))) dX2_layRow_48 ?_
        refine g_iload hk dX2_layRow_51 rfl ?_
        refine lX_22 (v := (A 22 x3734.toNatClampNeg)) hk (vp_in_iff.mpr ⟨by omega, by omega⟩) (congrFun (hA3740 22 rfl) _) dX2_layRow_53 ?_
        refine g_callV (n := 2) hk (k235_X2_costOf l D zt q d I3740 A3740 (A 21 z1.toNatClampNeg) (A 22 x3734.toNatClampNeg) hV3740) (SP.same _) (fun _ h => h) (gi_V (List.mem_cons_of_mem _ (List.mem_append_left _ (List.mem_of_getElem? (i := 13) rfl))) (List.mem_cons_of_mem _ (List.mem_append_left _ (List.mem_of_getElem? (i := 14) rfl))) (List.mem_cons_of_mem _ (List.mem_append_left _ (List.mem_of_getElem? (i := 15) rfl))) (List.mem_cons_of_mem _ (List.mem_append_left _ (List.mem_of_getElem? (i := 16) rfl))) (gi_sub (fun w h => (List.mem_cons_of_mem _ (List.mem_append_right _ (List.mem_append_right _ (List.mem_append_left _ h))))) zg_k235_X2_costOf)) rfl rfl rfl (by decide +kernel) ⟨Nat.le_of_ble_eq_true rfl, Nat.le_of_ble_eq_true rfl⟩ 38 rfl rfl rfl rfl (Nat.le_of_ble_eq_true rfl) ⟨Nat.le_of_ble_eq_true rfl, Nat.le_of_ble_eq_true rfl⟩ dX2_layRow_54 (fun v ty' w' hp hk' => ?_)
        obtain ⟨y3901, rfl, rfl⟩ := hp
        show GW κ 7 0 0 (wX q d I3740 A3740) 57 [(5, .int x3734), (4, .int x3735), (3, .int y3733), (2, .int y3727), (0, .ref (q 38)), (1, .int z1)] [.int y3901]
        refine g_istore (lv' := [(6, .int y3901), (5, .int x3734), (4, .int x3735), (3, .int y3733), (2, .int y3727), (0, .ref (q 38)), (1, .int z1)]) hk dX2_layRow_57 (by decide) rfl ?_
        refine g_iload_n hk dX2_layRow_59 rfl ?_
        refine g_if_gt (tgt := 68) (a := z1.toInt) hk dX2_layRow_60 (by decide) rfl (fun c3902 => ?_) (fun c3902 => ?_)
        · skip
          refine g_iload hk dX2_layRow_68 rfl ?_
          refine g_aload_n hk dX2_layRow_70 rfl ?_
          refine g_iload_n hk dX2_layRow_71 rfl ?_
          refine g_iload hk dX2_layRow_72 rfl ?_
          refine g_callV (n := 2) hk (k236_X2_leastAhead l D zt q d I3740 A3740 z1 x3734 hV3740 (by omega) (by omega) (by omega) (by omega)) (SP.same _) (fun _ h => h) (gi_V (List.mem_cons_of_mem _ (List.mem_append_left _ (List.mem_of_getElem? (i := 17) rfl))) (List.mem_cons_of_mem _ (List.mem_append_left _ (List.mem_of_getElem? (i := 18) rfl))) (List.mem_cons_of_mem _ (List.mem_append_left _ (List.mem_of_getElem? (i := 19) rfl))) (List.mem_cons_of_mem _ (List.mem_append_left _ (List.mem_of_getElem? (i := 16) rfl))) (gi_sub (fun w h => (List.mem_cons_of_mem _ (List.mem_append_right _ (List.mem_append_right _ (List.mem_append_right _ (List.mem_append_left _ h)))))) zg_k236_X2_leastAhead)) rfl rfl rfl (by decide +kernel) ⟨Nat.le_of_ble_eq_true rfl, Nat.le_of_ble_eq_true rfl⟩ 38 rfl rfl rfl rfl (Nat.le_of_ble_eq_true rfl) ⟨Nat.le_of_ble_eq_true rfl, Nat.le_of_ble_eq_true rfl⟩ dX2_layRow_74 (fun v ty' w' hp hk' => ?_)
          obtain ⟨y3903, rfl, rfl⟩ := hp
          show GW κ 7 0 0 (wX q d I3740 A3740) 77 [(6, .int y3901), (5, .int x3734), (4, .int x3735), (3, .int y3733), (2, .int y3727), (0, .ref (q 38)), (1, .int z1)] [.int y3903, .int y3901]
          have b3904l := Int32.le_toInt y3901
          have b3904h := Int32.toInt_lt y3901
          have b3905l := Int32.le_toInt y3903
          have b3905h := Int32.toInt_lt y3903
          refine g_iadd hk dX2_layRow_77 ?_
          refine g_topi (fun y3906 ey3906 => ?_)
          refine g_istore (lv' := [(6, .int y3906), (5, .int x3734), (4, .int x3735), (3, .int y3733), (2, .int y3727), (0, .ref (q 38)), (1, .int z1)]) hk dX2_layRow_78 (by decide) rfl ?_
          refine g_aload_n hk dX2_layRow_80 rfl ?_
          refine gX_r38_2 hk hin2 (List.mem_cons_of_mem _ (List.mem_append_left _ (List.mem_of_getElem? (i := 20) rfl))) dX2_layRow_81 ?_
          refine g_iload_n hk dX2_layRow_84 rfl ?_
          refine g_bipush (v := 16) hk dX2_layRow_85 (by decide) ?_
          refine g_imul hk dX2_layRow_87 ?_
          refine g_topi (fun y3907 ey3907 => ?_)
          have hy3907 : y3907.toInt = z1.toInt * 16 := i32_mul ey3907 rfl rfl (by omega) (by omega)
          refine g_iload hk dX2_layRow_88 rfl ?_
          refine g_iadd hk dX2_layRow_90 ?_
          refine g_topi (fun y3908 ey3908 => ?_)
          have hy3908 : y3908.toInt = y3907.toInt + x3734.toInt := i32_add ey3908 rfl rfl (by omega) (by omega)
          refine g_iload hk dX2_layRow_91 rfl ?_
          refine sX_23 (j := y3908.toNatClampNeg) hk (vp_in_iff.mpr ⟨by omega, by omega⟩) rfl dX2_layRow_93 ?_
          refine g_iload hk dX2_layRow_94 rfl ?_
          refine g_iload hk dX2_layRow_96 rfl ?_
          have b3909l := Int32.le_toInt y3906
          have b3909h := Int32.toInt_lt y3906
          have b3910l := Int32.le_toInt x3735
          have b3910h := Int32.toInt_lt x3735
          refine g_icmp_ge (tgt := 105) (a := y3906.toInt) (b := x3735.toInt) hk dX2_layRow_98 (by decide) rfl rfl (fun c3911 => ?_) (fun c3911 => ?_)
          · skip
            obtain ⟨y3912, ey3912⟩ : ∃ y : Int32, y = x3734 + Int32.ofInt 1 := ⟨_, rfl⟩
            have hy3912 : y3912.toInt = x3734.toInt + 1 := i32_add ey3912 rfl (by decide) (by omega) (by omega)
            refine g_iinc (v := y3912) (lv' := [(5, .int y3912), (6, .int y3906), (4, .int x3735), (3, .int y3733), (2, .int y3727), (0, .ref (q 38)), (1, .int z1)]) hk 1 dX2_layRow_105 rfl ey3912.symm (by decide) rfl ?_
            refine g_goto (tgt := 34) hk dX2_layRow_108 (by decide) ?_
            exact g_lv (List.forall_mem_cons.mpr ⟨List.mem_of_getElem? (i := 0) rfl, (List.forall_mem_cons.mpr ⟨List.mem_of_getElem? (i := 2) rfl, (List.forall_mem_cons.mpr ⟨List.mem_of_getElem? (i := 3) rfl, (List.forall_mem_cons.mpr ⟨List.mem_of_getElem? (i := 4) rfl, (List.forall_mem_cons.mpr ⟨List.mem_of_getElem? (i := 5) rfl, (List.forall_mem_cons.mpr ⟨List.mem_of_getElem? (i := 6) rfl, (fun _ h => absurd h List.not_mem_nil)⟩)⟩)⟩)⟩)⟩)⟩) (ih y3912 x3735 I3740 (up3 A3740 23 (y3908.toNatClampNeg) y3906) (show Md [] I I3740 from Md.tr hI3740 (show Md [] I3740 I3740 from Md.rf) rfl) (show Md [23] A (up3 A3740 23 (y3908.toNatClampNeg) y3906) from Md.tr hA3740 (show Md [23] A3740 (up3 A3740 23 (y3908.toNatClampNeg) y3906) from (Md.up3 Md.rf rfl)) rfl) ⟨(IvX_f0 (I := I3740) (A := A3740) hV3740), (IvX_f18 (I := I3740) (A := A3740) hV3740), (IvX_f30 (I := I3740) (A := A3740) hV3740), (IvX_f31 (I := I3740) (A := A3740) hV3740), (IvX_a4 (I := I3740) (A := A3740) hV3740), (IvX_a9 (I := I3740) (A := A3740) hV3740), trivial⟩ (by omega) (by omega) (by omega) (by omega))
          · skip
            refine g_iload hk dX2_layRow_101 rfl ?_
            refine g_istore (lv' := [(4, .int y3906), (6, .int y3906), (5, .int x3734), (3, .int y3733), (2, .int y3727), (0, .ref (q 38)), (1, .int z1)]) hk dX2_layRow_103 (by decide) rfl ?_
            obtain ⟨y3913, ey3913⟩ : ∃ y : Int32, y = x3734 + Int32.ofInt 1 := ⟨_, rfl⟩
            have hy3913 : y3913.toInt = x3734.toInt + 1 := i32_add ey3913 rfl (by decide) (by omega) (by omega)
            refine g_iinc (v := y3913) (lv' := [(5, .int y3913), (4, .int y3906), (6, .int y3906), (3, .int y3733), (2, .int y3727), (0, .ref (q 38)), (1, .int z1)]) hk 2 dX2_layRow_105 rfl ey3913.symm (by decide) rfl ?_
            refine g_goto (tgt := 34) hk dX2_layRow_108 (by decide) ?_
            exact g_lv (List.forall_mem_cons.mpr ⟨List.mem_of_getElem? (i := 0) rfl, (List.forall_mem_cons.mpr ⟨List.mem_of_getElem? (i := 1) rfl, (List.forall_mem_cons.mpr ⟨List.mem_of_getElem? (i := 3) rfl, (List.forall_mem_cons.mpr ⟨List.mem_of_getElem? (i := 4) rfl, (List.forall_mem_cons.mpr ⟨List.mem_of_getElem? (i := 5) rfl, (List.forall_mem_cons.mpr ⟨List.mem_of_getElem? (i := 6) rfl, (fun _ h => absurd h List.not_mem_nil)⟩)⟩)⟩)⟩)⟩)⟩) (ih y3913 y3906 I3740 (up3 A3740 23 (y3908.toNatClampNeg) y3906) (show Md [] I I3740 from Md.tr hI3740 (show Md [] I3740 I3740 from Md.rf) rfl) (show Md [23] A (up3 A3740 23 (y3908.toNatClampNeg) y3906) from Md.tr hA3740 (show Md [23] A3740 (up3 A3740 23 (y3908.toNatClampNeg) y3906) from (Md.up3 Md.rf rfl)) rfl) ⟨(IvX_f0 (I := I3740) (A := A3740) hV3740), (IvX_f18 (I := I3740) (A := A3740) hV3740), (IvX_f30 (I := I3740) (A := A3740) hV3740), (IvX_f31 (I := I3740) (A := A3740) hV3740), (IvX_a4 (I := I3740) (A := A3740) hV3740), (IvX_a9 (I := I3740) (A := A3740) hV3740), trivial⟩ (by omega) (by omega) (by omega) (by omega))
        · skip
          refine g_iload hk dX2_layRow_63 rfl ?_
          refine g_if_le (tgt := 80) (a := x3734.toInt) hk dX2_layRow_65 (by decide) rfl (fun c3914 => ?_) (fun c3914 => ?_)
          · skip
            refine g_aload_n hk dX2_layRow_80 rfl ?_
            refine gX_r38_2 hk hin2 (List.mem_cons_of_mem _ (List.mem_append_left _ (List.mem_of_getElem? (i := 20) rfl))) dX2_layRow_81 ?_
            refine g_iload_n hk dX2_layRow_84 rfl ?_
            refine g_bipush (v := 16) hk dX2_layRow_85 (by decide) ?_
            refine g_imul hk dX2_layRow_87 ?_
            refine g_topi (fun y3915 ey3915 => ?_)
            have hy3915 : y3915.toInt = z1.toInt * 16 := i32_mul ey3915 rfl rfl (by omega) (by omega)
            refine g_iload hk dX2_layRow_88 rfl ?_
            refine g_iadd hk dX2_layRow_90 ?_
            refine g_topi (fun y3916 ey3916 => ?_)
            have hy3916 : y3916.toInt = y3915.toInt + x3734.toInt := i32_add ey3916 rfl rfl (by omega) (by omega)
            refine g_iload hk dX2_layRow_91 rfl ?_
            refine sX_23 (j := y3916.toNatClampNeg) hk (vp_in_iff.mpr ⟨by omega, by omega⟩) rfl dX2_layRow_93 ?_
            refine g_iload hk dX2_layRow_94 rfl ?_
            refine g_iload hk dX2_layRow_96 rfl ?_
            have b3917l := Int32.le_toInt y3901
            have b3917h := Int32.toInt_lt y3901
            have b3918l := Int32.le_toInt x3735
            have b3918h := Int32.toInt_lt x3735
            refine g_icmp_ge (tgt := 105) (a := y3901.toInt) (b := x3735.toInt) hk dX2_layRow_98 (by decide) rfl rfl (fun c3919 => ?_) (fun c3919 => ?_)
            · skip
              obtain ⟨y3920, ey3920⟩ : ∃ y : Int32, y = x3734 + Int32.ofInt 1 := ⟨_, rfl⟩
              have hy3920 : y3920.toInt = x3734.toInt + 1 := i32_add ey3920 rfl (by decide) (by omega) (by omega)
              refine g_iinc (v := y3920) (lv' := [(5, .int y3920), (6, .int y3901), (4, .int x3735), (3, .int y3733), (2, .int y3727), (0, .ref (q 38)), (1, .int z1)]) hk 1 dX2_layRow_105 rfl ey3920.symm (by decide) rfl ?_
              refine g_goto (tgt := 34) hk dX2_layRow_108 (by decide) ?_
              exact g_lv (List.forall_mem_cons.mpr ⟨List.mem_of_getElem? (i := 0) rfl, (List.forall_mem_cons.mpr ⟨List.mem_of_getElem? (i := 2) rfl, (List.forall_mem_cons.mpr ⟨List.mem_of_getElem? (i := 3) rfl, (List.forall_mem_cons.mpr ⟨List.mem_of_getElem? (i := 4) rfl, (List.forall_mem_cons.mpr ⟨List.mem_of_getElem? (i := 5) rfl, (List.forall_mem_cons.mpr ⟨List.mem_of_getElem? (i := 6) rfl, (fun _ h => absurd h List.not_mem_nil)⟩)⟩)⟩)⟩)⟩)⟩) (ih y3920 x3735 I3740 (up3 A3740 23 (y3916.toNatClampNeg) y3901) (show Md [] I I3740 from Md.tr hI3740 (show Md [] I3740 I3740 from Md.rf) rfl) (show Md [23] A (up3 A3740 23 (y3916.toNatClampNeg) y3901) from Md.tr hA3740 (show Md [23] A3740 (up3 A3740 23 (y3916.toNatClampNeg) y3901) from (Md.up3 Md.rf rfl)) rfl) ⟨(IvX_f0 (I := I3740) (A := A3740) hV3740), (IvX_f18 (I := I3740) (A := A3740) hV3740), (IvX_f30 (I := I3740) (A := A3740) hV3740), (IvX_f31 (I := I3740) (A := A3740) hV3740), (IvX_a4 (I := I3740) (A := A3740) hV3740), (IvX_a9 (I := I3740) (A := A3740) hV3740), trivial⟩ (by omega) (by omega) (by omega) (by omega))
            · skip
              refine g_iload hk dX2_layRow_101 rfl ?_
              refine g_istore (lv' := [(4, .int y3901), (6, .int y3901), (5, .int x3734), (3, .int y3733), (2, .int y3727), (0, .ref (q 38)), (1, .int z1)]) hk dX2_layRow_103 (by decide) rfl ?_
              obtain ⟨y3921, ey3921⟩ : ∃ y : Int32, y = x3734 + Int32.ofInt 1 := ⟨_, rfl⟩
              have hy3921 : y3921.toInt = x3734.toInt + 1 := i32_add ey3921 rfl (by decide) (by omega) (by omega)
              refine g_iinc (v := y3921) (lv' := [(5, .int y3921), (4, .int y3901), (6, .int y3901), (3, .int y3733), (2, .int y3727), (0, .ref (q 38)), (1, .int z1)]) hk 2 dX2_layRow_105 rfl ey3921.symm (by decide) rfl ?_
              refine g_goto (tgt := 34) hk dX2_layRow_108 (by decide) ?_
              exact g_lv (List.forall_mem_cons.mpr ⟨List.mem_of_getElem? (i := 0) rfl, (List.forall_mem_cons.mpr ⟨List.mem_of_getElem? (i := 1) rfl, (List.forall_mem_cons.mpr ⟨List.mem_of_getElem? (i := 3) rfl, (List.forall_mem_cons.mpr ⟨List.mem_of_getElem? (i := 4) rfl, (List.forall_mem_cons.mpr ⟨List.mem_of_getElem? (i := 5) rfl, (List.forall_mem_cons.mpr ⟨List.mem_of_getElem? (i := 6) rfl, (fun _ h => absurd h List.not_mem_nil)⟩)⟩)⟩)⟩)⟩)⟩) (ih y3921 y3901 I3740 (up3 A3740 23 (y3916.toNatClampNeg) y3901) (show Md [] I I3740 from Md.tr hI3740 (show Md [] I3740 I3740 from Md.rf) rfl) (show Md [23] A (up3 A3740 23 (y3916.toNatClampNeg) y3901) from Md.tr hA3740 (show Md [23] A3740 (up3 A3740 23 (y3916.toNatClampNeg) y3901) from (Md.up3 Md.rf rfl)) rfl) ⟨(IvX_f0 (I := I3740) (A := A3740) hV3740), (IvX_f18 (I := I3740) (A := A3740) hV3740), (IvX_f30 (I := I3740) (A := A3740) hV3740), (IvX_f31 (I := I3740) (A := A3740) hV3740), (IvX_a4 (I := I3740) (A := A3740) hV3740), (IvX_a9 (I := I3740) (A := A3740) hV3740), trivial⟩ (by omega) (by omega) (by omega) (by omega))
          · skip
            refine g_iload hk dX2_layRow_68 rfl ?_
            refine g_aload_n hk dX2_layRow_70 rfl ?_
            refine g_iload_n hk dX2_layRow_71 rfl ?_
            refine g_iload hk dX2_layRow_72 rfl ?_
            refine g_callV (n := 2) hk (k236_X2_leastAhead l D zt q d I3740 A3740 z1 x3734 hV3740 (by omega) (by omega) (by omega) (by omega)) (SP.same _) (fun _ h => h) (gi_V (List.mem_cons_of_mem _ (List.mem_append_left _ (List.mem_of_getElem? (i := 17) rfl))) (List.mem_cons_of_mem _ (List.mem_append_left _ (List.mem_of_getElem? (i := 18) rfl))) (List.mem_cons_of_mem _ (List.mem_append_left _ (List.mem_of_getElem? (i := 19) rfl))) (List.mem_cons_of_mem _ (List.mem_append_left _ (List.mem_of_getElem? (i := 16) rfl))) (gi_sub (fun w h => (List.mem_cons_of_mem _ (List.mem_append_right _ (List.mem_append_right _ (List.mem_append_right _ (List.mem_append_left _ h)))))) zg_k236_X2_leastAhead)) rfl rfl rfl (by decide +kernel) ⟨Nat.le_of_ble_eq_true rfl, Nat.le_of_ble_eq_true rfl⟩ 38 rfl rfl rfl rfl (Nat.le_of_ble_eq_true rfl) ⟨Nat.le_of_ble_eq_true rfl, Nat.le_of_ble_eq_true rfl⟩ dX2_layRow_74 (fun v ty' w' hp hk' => ?_)
            obtain ⟨y3922, rfl, rfl⟩ := hp
            show GW κ 7 0 0 (wX q d I3740 A3740) 77 [(6, .int y3901), (5, .int x3734), (4, .int x3735), (3, .int y3733), (2, .int y3727), (0, .ref (q 38)), (1, .int z1)] [.int y3922, .int y3901]
            have b3923l := Int32.le_toInt y3901
            have b3923h := Int32.toInt_lt y3901
            have b3924l := Int32.le_toInt y3922
            have b3924h := Int32.toInt_lt y3922
            refine g_iadd hk dX2_layRow_77 ?_
            refine g_topi (fun y3925 ey3925 => ?_)
            refine g_istore (lv' := [(6, .int y3925), (5, .int x3734), (4, .int x3735), (3, .int y3733), (2, .int y3727), (0, .ref (q 38)), (1, .int z1)]) hk dX2_layRow_78 (by decide) rfl ?_
            refine g_aload_n hk dX2_layRow_80 rfl ?_
            refine gX_r38_2 hk hin2 (List.mem_cons_of_mem _ (List.mem_append_left _ (List.mem_of_getElem? (i := 20) rfl))) dX2_layRow_81 ?_
            refine g_iload_n hk dX2_layRow_84 rfl ?_
            refine g_bipush (v := 16) hk dX2_layRow_85 (by decide) ?_
            refine g_imul hk dX2_layRow_87 ?_
            refine g_topi (fun y3926 ey3926 => ?_)
            have hy3926 : y3926.toInt = z1.toInt * 16 := i32_mul ey3926 rfl rfl (by omega) (by omega)
            refine g_iload hk dX2_layRow_88 rfl ?_
            refine g_iadd hk dX2_layRow_90 ?_
            refine g_topi (fun y3927 ey3927 => ?_)
            have hy3927 : y3927.toInt = y3926.toInt + x3734.toInt := i32_add ey3927 rfl rfl (by omega) (by omega)
            refine g_iload hk dX2_layRow_91 rfl ?_
            refine sX_23 (j := y3927.toNatClampNeg) hk (vp_in_iff.mpr ⟨by omega, by omega⟩) rfl dX2_layRow_93 ?_
            refine g_iload hk dX2_layRow_94 rfl ?_
            refine g_iload hk dX2_layRow_96 rfl ?_
            have b3928l := Int32.le_toInt y3925
            have b3928h := Int32.toInt_lt y3925
            have b3929l := Int32.le_toInt x3735
            have b3929h := Int32.toInt_lt x3735
            refine g_icmp_ge (tgt := 105) (a := y3925.toInt) (b := x3735.toInt) hk dX2_layRow_98 (by decide) rfl rfl (fun c3930 => ?_) (fun c3930 => ?_)
            · skip
              obtain ⟨y3931, ey3931⟩ : ∃ y : Int32, y = x3734 + Int32.ofInt 1 := ⟨_, rfl⟩
              have hy3931 : y3931.toInt = x3734.toInt + 1 := i32_add ey3931 rfl (by decide) (by omega) (by omega)
              refine g_iinc (v := y3931) (lv' := [(5, .int y3931), (6, .int y3925), (4, .int x3735), (3, .int y3733), (2, .int y3727), (0, .ref (q 38)), (1, .int z1)]) hk 1 dX2_layRow_105 rfl ey3931.symm (by decide) rfl ?_
              refine g_goto (tgt := 34) hk dX2_layRow_108 (by decide) ?_
              exact g_lv (List.forall_mem_cons.mpr ⟨List.mem_of_getElem? (i := 0) rfl, (List.forall_mem_cons.mpr ⟨List.mem_of_getElem? (i := 2) rfl, (List.forall_mem_cons.mpr ⟨List.mem_of_getElem? (i := 3) rfl, (List.forall_mem_cons.mpr ⟨List.mem_of_getElem? (i := 4) rfl, (List.forall_mem_cons.mpr ⟨List.mem_of_getElem? (i := 5) rfl, (List.forall_mem_cons.mpr ⟨List.mem_of_getElem? (i := 6) rfl, (fun _ h => absurd h List.not_mem_nil)⟩)⟩)⟩)⟩)⟩)⟩) (ih y3931 x3735 I3740 (up3 A3740 23 (y3927.toNatClampNeg) y3925) (show Md [] I I3740 from Md.tr hI3740 (show Md [] I3740 I3740 from Md.rf) rfl) (show Md [23] A (up3 A3740 23 (y3927.toNatClampNeg) y3925) from Md.tr hA3740 (show Md [23] A3740 (up3 A3740 23 (y3927.toNatClampNeg) y3925) from (Md.up3 Md.rf rfl)) rfl) ⟨(IvX_f0 (I := I3740) (A := A3740) hV3740), (IvX_f18 (I := I3740) (A := A3740) hV3740), (IvX_f30 (I := I3740) (A := A3740) hV3740), (IvX_f31 (I := I3740) (A := A3740) hV3740), (IvX_a4 (I := I3740) (A := A3740) hV3740), (IvX_a9 (I := I3740) (A := A3740) hV3740), trivial⟩ (by omega) (by omega) (by omega) (by omega))
            · skip
              refine g_iload hk dX2_layRow_101 rfl ?_
              refine g_istore (lv' := [(4, .int y3925), (6, .int y3925), (5, .int x3734), (3, .int y3733), (2, .int y3727), (0, .ref (q 38)), (1, .int z1)]) hk dX2_layRow_103 (by decide) rfl ?_
              obtain ⟨y3932, ey3932⟩ : ∃ y : Int32, y = x3734 + Int32.ofInt 1 := ⟨_, rfl⟩
              have hy3932 : y3932.toInt = x3734.toInt + 1 := i32_add ey3932 rfl (by decide) (by omega) (by omega)
              refine g_iinc (v := y3932) (lv' := [(5, .int y3932), (4, .int y3925), (6, .int y3925), (3, .int y3733), (2, .int y3727), (0, .ref (q 38)), (1, .int z1)]) hk 2 dX2_layRow_105 rfl ey3932.symm (by decide) rfl ?_
              refine g_goto (tgt := 34) hk dX2_layRow_108 (by decide) ?_
              exact g_lv (List.forall_mem_cons.mpr ⟨List.mem_of_getElem? (i := 0) rfl, (List.forall_mem_cons.mpr ⟨List.mem_of_getElem? (i := 1) rfl, (List.forall_mem_cons.mpr ⟨List.mem_of_getElem? (i := 3) rfl, (List.forall_mem_cons.mpr ⟨List.mem_of_getElem? (i := 4) rfl, (List.forall_mem_cons.mpr ⟨List.mem_of_getElem? (i := 5) rfl, (List.forall_mem_cons.mpr ⟨List.mem_of_getElem? (i := 6) rfl, (fun _ h => absurd h List.not_mem_nil)⟩)⟩)⟩)⟩)⟩)⟩) (ih y3932 y3925 I3740 (up3 A3740 23 (y3927.toNatClampNeg) y3925) (show Md [] I I3740 from Md.tr hI3740 (show Md [] I3740 I3740 from Md.rf) rfl) (show Md [23] A (up3 A3740 23 (y3927.toNatClampNeg) y3925) from Md.tr hA3740 (show Md [23] A3740 (up3 A3740 23 (y3927.toNatClampNeg) y3925) from (Md.up3 Md.rf rfl)) rfl) ⟨(IvX_f0 (I := I3740) (A := A3740) hV3740), (IvX_f18 (I := I3740) (A := A3740) hV3740), (IvX_f30 (I := I3740) (A := A3740) hV3740), (IvX_f31 (I := I3740) (A := A3740) hV3740), (IvX_a4 (I := I3740) (A := A3740) hV3740), (IvX_a9 (I := I3740) (A := A3740) hV3740), trivial⟩ (by omega) (by omega) (by omega) (by omega))
  have k3934 : (2147483647 : Int32).toInt = 2147483647 := rfl
  obtain ⟨n3933, n3933a, n3933b⟩ : ∃ n : Nat, 16 - y3727.toInt < (n : Int) ∧ 0 < n := ⟨((16 - y3727.toInt : Int)).toNat + 1, by omega, by omega⟩
  exact lp3889 n3933 y3727 2147483647 I A Md.rf Md.rf hIv (by omega) (by omega) n3933a n3933b
def wo_k233_X2_layTable : List Cond := [Cond.fieldLink RX2 76 "WarpDesk$Fit" "cells" "I", Cond.fieldLink RX2 79 "WarpDesk$Fit" "brokenRow" "I", Cond.fieldLink RX2 24 "WarpDesk$Fit" "length" "I", Cond.methodLink RX2 94 yX2_layRow, Cond.instanceMethod yX2_layRow, Cond.selects RX2 yX2_layRow yX2_layRow, Cond.initialized RX2]
def wz_k233_X2_layTable : List Cond := .code yX2_layTable cX2_layTable 3 none :: (wo_k233_X2_layTable ++ (wsX20 ++ (wz_k234_X2_layRow ++ ([] : List Cond))))
theorem zg_k233_X2_layTable : ∀ w ∈ wz_k233_X2_layTable, goodWord w = true := zg_cons rfl (zg_app (by decide +kernel) (zg_app zgU_wsX20 (zg_app zg_k234_X2_layRow zg_nil)))
theorem zi_k233_X2_layTable : ∀ w ∈ wz_k233_X2_layTable, w ∈ lw_tbl := zi_cons zw_1000 (zi_app (zi_cons zw_347 (zi_cons zw_350 (zi_cons zw_343 (zi_cons zw_1001 (zi_cons zw_1003 (zi_cons zw_29 (zi_cons zw_112 zi_nil))))))) (zi_app inX2 (zi_app zi_k234_X2_layRow zi_nil)))
set_option maxHeartbeats 4000000 in
set_option maxRecDepth 100000 in
theorem k233_X2_layTable (l : Launch) (D : va_G) (zt : Nat × Nat × Nat × (Nat → Nat) × (Nat → Nat)) (q : Nat → Nat) (d : Nat → ClassId) (I : Nat → Int32) (A : Nat → Nat → Int32) (z1 : Int32) (hIv : IvX I A) : GM l D zt (tyX d) yX2_layTable wz_k233_X2_layTable ({ frames := 2, cells := 0, slots := 0, locals := 50 } : Room) [.ref (q 38), .int z1] (wX q d I A) (fun v _ w' => ∃ (I' : Nat → Int32) (A' : Nat → Nat → Int32), Md [33, 34] I I' ∧ Md [23] A A' ∧ IvX I' A' ∧ v = none ∧ w' = wX q d I' A') 0 0 := by
  refine GM.of (cc := cX2_layTable) (maxL := 3) (ret := none) (own := RX2) (lv := [(0, .ref (q 38)), (1, .int z1)]) (by decide) rfl rfl (Nat.le_of_ble_eq_true rfl) rfl (fun κ sz hk hR hN => ?_)
  have hin2 : ∀ w ∈ u_ws RX2 TX2 10, w ∈ wz_k233_X2_layTable := fun w h => (List.mem_cons_of_mem _ (List.mem_append_right _ (List.mem_append_left _ h)))
  refine g_aload_n hk dX2_layTable_0 rfl ?_
  refine g_iconst (v := 0) hk dX2_layTable_1 (by decide) ?_
  refine pX_i33 hk hin2 (List.mem_cons_of_mem _ (List.mem_append_left _ (List.mem_of_getElem? (i := 0) rfl))) dX2_layTable_2 ?_
  refine g_aload_n hk dX2_layTable_5 rfl ?_
  refine g_bipush (v := (-2)) hk dX2_layTable_6 (by decide) ?_
  refine pX_i34 hk hin2 (List.mem_cons_of_mem _ (List.mem_append_left _ (List.mem_of_getElem? (i := 1) rfl))) dX2_layTable_8 ?_
  refine g_iconst (v := 0) hk dX2_layTable_11 (by decide) ?_
  refine g_istore_n (lv' := [(2, .int 0), (0, .ref (q 38)), (1, .int z1)]) hk dX2_layTable_12 (by decide) rfl ?_
  have lp3968 : ∀ (n3969 : Nat) (x3719 : Int32) (I3722 : Nat → Int32) (A3722 : Nat → Nat → Int32), (Md [33, 34] (upd (upd I 33 0) 34 (-2)) I3722) → (Md [23] A A3722) → (IvX I3722 A3722) → (0 ≤ x3719.toInt) → (x3719.toInt ≤ 16) → (17 - x3719.toInt < (n3969 : Int)) → (0 < n3969) → GW κ 3 0 0 (wX q d I3722 A3722) 13 [(2, .int x3719), (0, .ref (q 38)), (1, .int z1)] [] := by
    intro n3969
    induction n3969 with
    | zero =>
      intro x3719 I3722 A3722 hI3722 hA3722 hV3722 h3966 h3967 m3970 m3970z
      exact absurd m3970z (Nat.lt_irrefl 0)
    | succ n3969 ih =>
      intro x3719 I3722 A3722 hI3722 hA3722 hV3722 h3966 h3967 m3970 m3970z
      refine g_iload_n hk dX2_layTable_13 rfl ?_
      refine g_aload_n hk dX2_layTable_14 rfl ?_
      refine gX_i30 (v := (I 30)) hk hin2 (List.mem_cons_of_mem _ (List.mem_append_left _ (List.mem_of_getElem? (i := 2) rfl))) dX2_layTable_15 (hI3722 30 rfl) ?_
      have f3971 := IvX_f30 hIv
      refine g_icmp_ge (tgt := 42) (a := x3719.toInt) (b := (I 30).toInt) hk dX2_layTable_18 (by decide) rfl rfl (fun c3972 => ?_) (fun c3972 => ?_)
      · skip
        exact g_vret hk hR ⟨I3722, A3722, (show Md [33, 34] I I3722 from (Md.tr (Md.up (Md.up Md.rf rfl) rfl) hI3722 rfl)), (show Md [23] A A3722 from (Md.tr Md.rf hA3722 rfl)), hV3722, rfl, rfl⟩ dX2_layTable_42
      · skip
        refine g_aload_n hk dX2_layTable_21 rfl ?_
        refine g_iload_n hk dX2_layTable_22 rfl ?_
        refine g_callV (n := 1) hk (k234_X2_layRow l D zt q d I3722 A3722 x3719 hV3722 (by omega) (by omega)) (SP.same _) (fun _ h => h) (gi_V (List.mem_cons_of_mem _ (List.mem_append_left _ (List.mem_of_getElem? (i := 3) rfl))) (List.mem_cons_of_mem _ (List.mem_append_left _ (List.mem_of_getElem? (i := 4) rfl))) (List.mem_cons_of_mem _ (List.mem_append_left _ (List.mem_of_getElem? (i := 5) rfl))) (List.mem_cons_of_mem _ (List.mem_append_left _ (List.mem_of_getElem? (i := 6) rfl))) (gi_sub (fun w h => (List.mem_cons_of_mem _ (List.mem_append_right _ (List.mem_append_right _ (List.mem_append_left _ h))))) zg_k234_X2_layRow)) rfl rfl rfl (by decide +kernel) ⟨Nat.le_of_ble_eq_true rfl, Nat.le_of_ble_eq_true rfl⟩ 38 rfl rfl rfl rfl (Nat.le_of_ble_eq_true rfl) ⟨Nat.le_of_ble_eq_true rfl, Nat.le_of_ble_eq_true rfl⟩ dX2_layTable_23 (fun v ty' w' hp hk' => ?_)
        obtain ⟨I3974, A3974, hI3974, hA3974, hV3974, y3973, rfl, rfl⟩ := hp
        show GW κ 3 0 0 (wX q d I3974 A3974) 26 [(2, .int x3719), (0, .ref (q 38)), (1, .int z1)] [.int y3973]
        refine g_iload_n hk dX2_layTable_26 rfl ?_
        have b3975l := Int32.le_toInt y3973
        have b3975h := Int32.toInt_lt y3973
        have b3976l := Int32.le_toInt z1
        have b3976h := Int32.toInt_lt z1
        refine g_icmp_lt (tgt := 36) (a := y3973.toInt) (b := z1.toInt) hk dX2_layTable_27 (by decide) rfl rfl (fun c3977 => ?_) (fun c3977 => ?_)
        · skip
          obtain ⟨y3978, ey3978⟩ : ∃ y : Int32, y = x3719 + Int32.ofInt 1 := ⟨_, rfl⟩
          have hy3978 : y3978.toInt = x3719.toInt + 1 := i32_add ey3978 rfl (by decide) (by omega) (by omega)
          refine g_iinc (v := y3978) (lv' := [(2, .int y3978), (0, .ref (q 38)), (1, .int z1)]) hk 0 dX2_layTable_36 rfl ey3978.symm (by decide) rfl ?_
          refine g_goto (tgt := 13) hk dX2_layTable_39 (by decide) ?_
          exact g_lv (List.forall_mem_cons.mpr ⟨List.mem_of_getElem? (i := 0) rfl, (List.forall_mem_cons.mpr ⟨List.mem_of_getElem? (i := 1) rfl, (List.forall_mem_cons.mpr ⟨List.mem_of_getElem? (i := 2) rfl, (fun _ h => absurd h List.not_mem_nil)⟩)⟩)⟩) (ih y3978 I3974 A3974 (show Md [33, 34] (upd (upd I 33 0) 34 (-2)) I3974 from Md.tr hI3722 (show Md [33, 34] I3722 I3974 from (Md.tr Md.rf hI3974 rfl)) rfl) (show Md [23] A A3974 from Md.tr hA3722 (show Md [23] A3722 A3974 from (Md.tr Md.rf hA3974 rfl)) rfl) hV3974 (by omega) (by omega) (by omega) (by omega))
        · skip
          refine g_aload_n hk dX2_layTable_30 rfl ?_
          refine g_iload_n hk dX2_layTable_31 rfl ?_
          refine pX_i34 hk hin2 (List.mem_cons_of_mem _ (List.mem_append_left _ (List.mem_of_getElem? (i := 1) rfl))) dX2_layTable_32 ?_
          exact g_vret hk hR ⟨(upd I3974 34 x3719), A3974, (show Md [33, 34] I (upd I3974 34 x3719) from (Md.up (Md.tr (Md.tr (Md.up (Md.up Md.rf rfl) rfl) hI3722 rfl) hI3974 rfl) rfl)), (show Md [23] A A3974 from (Md.tr (Md.tr Md.rf hA3722 rfl) hA3974 rfl)), ⟨(IvX_f0 (I := I3974) (A := A3974) hV3974), (IvX_f18 (I := I3974) (A := A3974) hV3974), (IvX_f30 (I := I3974) (A := A3974) hV3974), (IvX_f31 (I := I3974) (A := A3974) hV3974), (IvX_a4 (I := I3974) (A := A3974) hV3974), (IvX_a9 (I := I3974) (A := A3974) hV3974), trivial⟩, rfl, rfl⟩ dX2_layTable_35
  have k3980 : (0 : Int32).toInt = 0 := rfl
  obtain ⟨n3979, n3979a, n3979b⟩ : ∃ n : Nat, 17 - 0 < (n : Int) ∧ 0 < n := ⟨((17 - 0 : Int)).toNat + 1, by omega, by omega⟩
  exact lp3968 n3979 0 (upd (upd I 33 0) 34 (-2)) A Md.rf Md.rf ⟨(IvX_f0 (I := I) (A := A) hIv), (IvX_f18 (I := I) (A := A) hIv), (IvX_f30 (I := I) (A := A) hIv), (IvX_f31 (I := I) (A := A) hIv), (IvX_a4 (I := I) (A := A) hIv), (IvX_a9 (I := I) (A := A) hIv), trivial⟩ (by omega) (by omega) n3979a n3979b
def wo_k237_X2_laidDistance : List Cond := [Cond.fieldLink RX2 18 "WarpDesk$Fit" "table" "[I", Cond.fieldLink RX2 24 "WarpDesk$Fit" "length" "I"]
def wz_k237_X2_laidDistance : List Cond := .code yX2_laidDistance cX2_laidDistance 1 (some .int) :: (wo_k237_X2_laidDistance ++ (wsX20 ++ ([] : List Cond)))
theorem zg_k237_X2_laidDistance : ∀ w ∈ wz_k237_X2_laidDistance, goodWord w = true := zg_cons rfl (zg_app (by decide +kernel) (zg_app zgU_wsX20 zg_nil))
theorem zi_k237_X2_laidDistance : ∀ w ∈ wz_k237_X2_laidDistance, w ∈ lw_tbl := zi_cons zw_1016 (zi_app (zi_cons zw_339 (zi_cons zw_343 zi_nil)) (zi_app inX2 zi_nil))
set_option maxHeartbeats 4000000 in
set_option maxRecDepth 100000 in
theorem k237_X2_laidDistance (l : Launch) (D : va_G) (zt : Nat × Nat × Nat × (Nat → Nat) × (Nat → Nat)) (q : Nat → Nat) (d : Nat → ClassId) (I : Nat → Int32) (A : Nat → Nat → Int32) (hIv : IvX I A) : GM l D zt (tyX d) yX2_laidDistance wz_k237_X2_laidDistance ({ frames := 0, cells := 0, slots := 0, locals := 0 } : Room) [.ref (q 38)] (wX q d I A) (fun v _ w' => ∃ y0 : Int32, v = some (.int y0) ∧ w' = wX q d I A) 0 0 := by
  refine GM.of (cc := cX2_laidDistance) (maxL := 1) (ret := (some .int)) (own := RX2) (lv := [(0, .ref (q 38))]) (by decide) rfl rfl (Nat.le_of_ble_eq_true rfl) rfl (fun κ sz hk hR hN => ?_)
  have hin2 : ∀ w ∈ u_ws RX2 TX2 10, w ∈ wz_k237_X2_laidDistance := fun w h => (List.mem_cons_of_mem _ (List.mem_append_right _ (List.mem_append_left _ h)))
  refine g_aload_n hk dX2_laidDistance_0 rfl ?_
  refine gX_r38_2 hk hin2 (List.mem_cons_of_mem _ (List.mem_append_left _ (List.mem_of_getElem? (i := 0) rfl))) dX2_laidDistance_1 ?_
  refine g_aload_n hk dX2_laidDistance_4 rfl ?_
  refine gX_i30 (v := (I 30)) hk hin2 (List.mem_cons_of_mem _ (List.mem_append_left _ (List.mem_of_getElem? (i := 1) rfl))) dX2_laidDistance_5 rfl ?_
  have f3984 := IvX_f30 hIv
  refine g_iconst (v := 1) hk dX2_laidDistance_8 (by decide) ?_
  refine g_isub hk dX2_laidDistance_9 ?_
  refine g_topi (fun y3985 ey3985 => ?_)
  have hy3985 : y3985.toInt = (I 30).toInt - 1 := i32_sub ey3985 rfl rfl (by omega) (by omega)
  refine g_bipush (v := 16) hk dX2_laidDistance_10 (by decide) ?_
  refine g_imul hk dX2_laidDistance_12 ?_
  refine g_topi (fun y3986 ey3986 => ?_)
  have hy3986 : y3986.toInt = y3985.toInt * 16 := i32_mul ey3986 rfl rfl (by omega) (by omega)
  refine g_aload_n hk dX2_laidDistance_13 rfl ?_
  refine gX_i30 (v := (I 30)) hk hin2 (List.mem_cons_of_mem _ (List.mem_append_left _ (List.mem_of_getElem? (i := 1) rfl))) dX2_laidDistance_14 rfl ?_
  refine g_iadd hk dX2_laidDistance_17 ?_
  refine g_topi (fun y3987 ey3987 => ?_)
  have hy3987 : y3987.toInt = y3986.toInt + (I 30).toInt := i32_add ey3987 rfl rfl (by omega) (by omega)
  refine g_iconst (v := 1) hk dX2_laidDistance_18 (by decide) ?_
  refine g_isub hk dX2_laidDistance_19 ?_
  refine g_topi (fun y3988 ey3988 => ?_)
  have hy3988 : y3988.toInt = y3987.toInt - 1 := i32_sub ey3988 rfl rfl (by omega) (by omega)
  refine lX_23 (v := (A 23 y3988.toNatClampNeg)) hk (vp_in_iff.mpr ⟨by omega, by omega⟩) rfl dX2_laidDistance_20 ?_
  have b3989l := Int32.le_toInt (A 23 y3988.toNatClampNeg)
  have b3989h := Int32.toInt_lt (A 23 y3988.toNatClampNeg)
  exact g_iret hk hR rfl ⟨(A 23 y3988.toNatClampNeg), rfl, rfl⟩ dX2_laidDistance_21
def wo_k232_X2_wholeDistance : List Cond := [Cond.constant RX2 93 (2147483647), Cond.methodLink RX2 86 yX2_layTable, Cond.instanceMethod yX2_layTable, Cond.selects RX2 yX2_layTable yX2_layTable, Cond.initialized RX2, Cond.methodLink RX2 90 yX2_laidDistance, Cond.instanceMethod yX2_laidDistance, Cond.selects RX2 yX2_laidDistance yX2_laidDistance]
def wz_k232_X2_wholeDistance : List Cond := .code yX2_wholeDistance cX2_wholeDistance 1 (some .int) :: (wo_k232_X2_wholeDistance ++ (wz_k233_X2_layTable ++ (wz_k237_X2_laidDistance ++ ([] : List Cond))))
theorem zg_k232_X2_wholeDistance : ∀ w ∈ wz_k232_X2_wholeDistance, goodWord w = true := zg_cons rfl (zg_app (by decide +kernel) (zg_app zg_k233_X2_layTable (zg_app zg_k237_X2_laidDistance zg_nil)))
theorem zi_k232_X2_wholeDistance : ∀ w ∈ wz_k232_X2_wholeDistance, w ∈ lw_tbl := zi_cons zw_995 (zi_app (zi_cons zw_996 (zi_cons zw_997 (zi_cons zw_999 (zi_cons zw_28 (zi_cons zw_112 (zi_cons zw_1013 (zi_cons zw_1014 (zi_cons zw_1015 zi_nil)))))))) (zi_app zi_k233_X2_layTable (zi_app zi_k237_X2_laidDistance zi_nil)))
set_option maxHeartbeats 4000000 in
set_option maxRecDepth 100000 in
theorem k232_X2_wholeDistance (l : Launch) (D : va_G) (zt : Nat × Nat × Nat × (Nat → Nat) × (Nat → Nat)) (q : Nat → Nat) (d : Nat → ClassId) (I : Nat → Int32) (A : Nat → Nat → Int32) (hIv : IvX I A) : GM l D zt (tyX d) yX2_wholeDistance wz_k232_X2_wholeDistance ({ frames := 3, cells := 0, slots := 0, locals := 72 } : Room) [.ref (q 38)] (wX q d I A) (fun v _ w' => ∃ (I' : Nat → Int32) (A' : Nat → Nat → Int32), Md [33, 34] I I' ∧ Md [23] A A' ∧ IvX I' A' ∧ ∃ y0 : Int32, v = some (.int y0) ∧ w' = wX q d I' A') 0 0 := by
  refine GM.of (cc := cX2_wholeDistance) (maxL := 1) (ret := (some .int)) (own := RX2) (lv := [(0, .ref (q 38))]) (by decide) rfl rfl (Nat.le_of_ble_eq_true rfl) rfl (fun κ sz hk hR hN => ?_)
  refine g_aload_n hk dX2_wholeDistance_0 rfl ?_
  refine g_ldc (v := 2147483647) hk (List.mem_cons_of_mem _ (List.mem_append_left _ (List.mem_of_getElem? (i := 0) rfl))) dX2_wholeDistance_1 ?_
  have k3981 : (2147483647 : Int32).toInt = 2147483647 := rfl
  refine g_callV (n := 1) hk (k233_X2_layTable l D zt q d I A 2147483647 hIv) (SP.same _) (fun _ h => h) (gi_V (List.mem_cons_of_mem _ (List.mem_append_left _ (List.mem_of_getElem? (i := 1) rfl))) (List.mem_cons_of_mem _ (List.mem_append_left _ (List.mem_of_getElem? (i := 2) rfl))) (List.mem_cons_of_mem _ (List.mem_append_left _ (List.mem_of_getElem? (i := 3) rfl))) (List.mem_cons_of_mem _ (List.mem_append_left _ (List.mem_of_getElem? (i := 4) rfl))) (gi_sub (fun w h => (List.mem_cons_of_mem _ (List.mem_append_right _ (List.mem_append_left _ h)))) zg_k233_X2_layTable)) rfl rfl rfl (by decide +kernel) ⟨Nat.le_of_ble_eq_true rfl, Nat.le_of_ble_eq_true rfl⟩ 38 rfl rfl rfl rfl (Nat.le_of_ble_eq_true rfl) ⟨Nat.le_of_ble_eq_true rfl, Nat.le_of_ble_eq_true rfl⟩ dX2_wholeDistance_3 (fun v ty' w' hp hk' => ?_)
  obtain ⟨I3983, A3983, hI3983, hA3983, hV3983, rfl, rfl⟩ := hp
  show GW κ 1 0 0 (wX q d I3983 A3983) 6 [(0, .ref (q 38))] []
  refine g_aload_n hk dX2_wholeDistance_6 rfl ?_
  refine g_callV (n := 0) hk (k237_X2_laidDistance l D zt q d I3983 A3983  hV3983) (SP.same _) (fun _ h => h) (gi_V (List.mem_cons_of_mem _ (List.mem_append_left _ (List.mem_of_getElem? (i := 5) rfl))) (List.mem_cons_of_mem _ (List.mem_append_left _ (List.mem_of_getElem? (i := 6) rfl))) (List.mem_cons_of_mem _ (List.mem_append_left _ (List.mem_of_getElem? (i := 7) rfl))) (List.mem_cons_of_mem _ (List.mem_append_left _ (List.mem_of_getElem? (i := 4) rfl))) (gi_sub (fun w h => (List.mem_cons_of_mem _ (List.mem_append_right _ (List.mem_append_right _ (List.mem_append_left _ h))))) zg_k237_X2_laidDistance)) rfl rfl rfl (by decide +kernel) ⟨Nat.le_of_ble_eq_true rfl, Nat.le_of_ble_eq_true rfl⟩ 38 rfl rfl rfl rfl (Nat.le_of_ble_eq_true rfl) ⟨Nat.le_of_ble_eq_true rfl, Nat.le_of_ble_eq_true rfl⟩ dX2_wholeDistance_7 (fun v ty' w' hp hk' => ?_)
  obtain ⟨y3990, rfl, rfl⟩ := hp
  show GW κ 1 0 0 (wX q d I3983 A3983) 10 [(0, .ref (q 38))] [.int y3990]
  have b3991l := Int32.le_toInt y3990
  have b3991h := Int32.toInt_lt y3990
  exact g_iret hk hR rfl ⟨I3983, A3983, (show Md [33, 34] I I3983 from (Md.tr Md.rf hI3983 rfl)), (show Md [23] A A3983 from (Md.tr Md.rf hA3983 rfl)), hV3983, y3990, rfl, rfl⟩ dX2_wholeDistance_10
def wo_k221_X11_distance : List Cond := [Cond.fieldLink RX11 65 "WarpDesk" "bench" "LWarpDesk$Bench;", Cond.methodLink RX11 212 yX0_openBoth, Cond.instanceMethod yX0_openBoth, Cond.selects RX0 yX0_openBoth yX0_openBoth, Cond.initialized RX0, Cond.fieldLink RX11 202 "WarpDesk$Bench" "fit" "LWarpDesk$Fit;", Cond.methodLink RX11 215 yX2_wholeDistance, Cond.instanceMethod yX2_wholeDistance, Cond.selects RX2 yX2_wholeDistance yX2_wholeDistance, Cond.initialized RX2]
def wz_k221_X11_distance : List Cond := .code yX11_distance cX11_distance 3 (some .int) :: (wo_k221_X11_distance ++ (wsX00 ++ (wsX110 ++ (wz_k222_X0_openBoth ++ (wz_k232_X2_wholeDistance ++ ([] : List Cond))))))
theorem zg_k221_X11_distance : ∀ w ∈ wz_k221_X11_distance, goodWord w = true := zg_cons rfl (zg_app (by decide +kernel) (zg_app zgU_wsX00 (zg_app zgU_wsX110 (zg_app zg_k222_X0_openBoth (zg_app zg_k232_X2_wholeDistance zg_nil)))))
theorem zi_k221_X11_distance : ∀ w ∈ wz_k221_X11_distance, w ∈ lw_tbl := zi_cons zw_968 (zi_app (zi_cons zw_494 (zi_cons zw_969 (zi_cons zw_970 (zi_cons zw_971 (zi_cons zw_111 (zi_cons zw_383 (zi_cons zw_992 (zi_cons zw_993 (zi_cons zw_994 (zi_cons zw_112 zi_nil)))))))))) (zi_app inX0 (zi_app inX11 (zi_app zi_k222_X0_openBoth (zi_app zi_k232_X2_wholeDistance zi_nil)))))
set_option maxHeartbeats 4000000 in
set_option maxRecDepth 100000 in
theorem k221_X11_distance (l : Launch) (D : va_G) (zt : Nat × Nat × Nat × (Nat → Nat) × (Nat → Nat)) (q : Nat → Nat) (d : Nat → ClassId) (I : Nat → Int32) (A : Nat → Nat → Int32) (z1 : Int32) (z2 : Int32) (hIv : IvX I A) : GM l D zt (tyX d) yX11_distance wz_k221_X11_distance ({ frames := 6, cells := 0, slots := 0, locals := 131 } : Room) [.ref (q 0), .int z1, .int z2] (wX q d I A) (fun v _ w' => ∃ (I' : Nat → Int32) (A' : Nat → Nat → Int32), Md [28, 30, 31, 32, 33, 34] I I' ∧ Md [21, 22, 23] A A' ∧ IvX I' A' ∧ ∃ y0 : Int32, v = some (.int y0) ∧ w' = wX q d I' A') 0 0 := by
  refine GM.of (cc := cX11_distance) (maxL := 3) (ret := (some .int)) (own := RX11) (lv := [(0, .ref (q 0)), (1, .int z1), (2, .int z2)]) (by decide) rfl rfl (Nat.le_of_ble_eq_true rfl) rfl (fun κ sz hk hR hN => ?_)
  have hin0 : ∀ w ∈ u_ws RX0 TX0 5, w ∈ wz_k221_X11_distance := fun w h => (List.mem_cons_of_mem _ (List.mem_append_right _ (List.mem_append_left _ h)))
  have hin11 : ∀ w ∈ u_ws RX11 TX11 10, w ∈ wz_k221_X11_distance := fun w h => (List.mem_cons_of_mem _ (List.mem_append_right _ (List.mem_append_right _ (List.mem_append_left _ h))))
  refine g_aload_n hk dX11_distance_0 rfl ?_
  refine gX_r0_7 hk hin11 (List.mem_cons_of_mem _ (List.mem_append_left _ (List.mem_of_getElem? (i := 0) rfl))) dX11_distance_1 ?_
  refine g_iload_n hk dX11_distance_4 rfl ?_
  refine g_iload_n hk dX11_distance_5 rfl ?_
  refine g_callV (n := 2) hk (k222_X0_openBoth l D zt q d I A z1 z2 hIv) (SP.same _) (fun _ h => h) (gi_V (List.mem_cons_of_mem _ (List.mem_append_left _ (List.mem_of_getElem? (i := 1) rfl))) (List.mem_cons_of_mem _ (List.mem_append_left _ (List.mem_of_getElem? (i := 2) rfl))) (List.mem_cons_of_mem _ (List.mem_append_left _ (List.mem_of_getElem? (i := 3) rfl))) (List.mem_cons_of_mem _ (List.mem_append_left _ (List.mem_of_getElem? (i := 4) rfl))) (gi_sub (fun w h => (List.mem_cons_of_mem _ (List.mem_append_right _ (List.mem_append_right _ (List.mem_append_right _ (List.mem_append_left _ h)))))) zg_k222_X0_openBoth)) rfl rfl rfl (by decide +kernel) ⟨Nat.le_of_ble_eq_true rfl, Nat.le_of_ble_eq_true rfl⟩ 37 rfl rfl rfl rfl (Nat.le_of_ble_eq_true rfl) ⟨Nat.le_of_ble_eq_true rfl, Nat.le_of_ble_eq_true rfl⟩ dX11_distance_6 (fun v ty' w' hp hk' => ?_)
  obtain ⟨I3717, A3717, hI3717, hA3717, hV3717, y3714, c3715, c3716, rfl, rfl⟩ := hp
  show GW κ 3 0 0 (wX q d I3717 A3717) 9 [(0, .ref (q 0)), (1, .int z1), (2, .int z2)] [.int y3714]
  refine g_if_eq (tgt := 25) (a := y3714.toInt) hk dX11_distance_9 (by decide) rfl (fun c3718 => ?_) (fun c3718 => ?_)
  · skip
    refine g_iconst (v := (-1)) hk dX11_distance_25 (by decide) ?_
    exact g_iret hk hR rfl ⟨I3717, A3717, (show Md [28, 30, 31, 32, 33, 34] I I3717 from (Md.tr Md.rf hI3717 rfl)), (show Md [21, 22, 23] A A3717 from (Md.tr Md.rf hA3717 rfl)), hV3717, (-1), rfl, rfl⟩ dX11_distance_26
  · skip
    refine g_aload_n hk dX11_distance_12 rfl ?_
    refine gX_r0_7 hk hin11 (List.mem_cons_of_mem _ (List.mem_append_left _ (List.mem_of_getElem? (i := 0) rfl))) dX11_distance_13 ?_
    refine gX_r37_3 hk hin0 (List.mem_cons_of_mem _ (List.mem_append_left _ (List.mem_of_getElem? (i := 5) rfl))) dX11_distance_16 ?_
    refine g_callV (n := 0) hk (k232_X2_wholeDistance l D zt q d I3717 A3717  hV3717) (SP.same _) (fun _ h => h) (gi_V (List.mem_cons_of_mem _ (List.mem_append_left _ (List.mem_of_getElem? (i := 6) rfl))) (List.mem_cons_of_mem _ (List.mem_append_left _ (List.mem_of_getElem? (i := 7) rfl))) (List.mem_cons_of_mem _ (List.mem_append_left _ (List.mem_of_getElem? (i := 8) rfl))) (List.mem_cons_of_mem _ (List.mem_append_left _ (List.mem_of_getElem? (i := 9) rfl))) (gi_sub (fun w h => (List.mem_cons_of_mem _ (List.mem_append_right _ (List.mem_append_right _ (List.mem_append_right _ (List.mem_append_right _ (List.mem_append_left _ h))))))) zg_k232_X2_wholeDistance)) rfl rfl rfl (by decide +kernel) ⟨Nat.le_of_ble_eq_true rfl, Nat.le_of_ble_eq_true rfl⟩ 38 rfl rfl rfl rfl (Nat.le_of_ble_eq_true rfl) ⟨Nat.le_of_ble_eq_true rfl, Nat.le_of_ble_eq_true rfl⟩ dX11_distance_19 (fun v ty' w' hp hk' => ?_)
    obtain ⟨I3993, A3993, hI3993, hA3993, hV3993, y3992, rfl, rfl⟩ := hp
    show GW κ 3 0 0 (wX q d I3993 A3993) 22 [(0, .ref (q 0)), (1, .int z1), (2, .int z2)] [.int y3992]
    refine g_goto (tgt := 26) hk dX11_distance_22 (by decide) ?_
    have b3994l := Int32.le_toInt y3992
    have b3994h := Int32.toInt_lt y3992
    exact g_iret hk hR rfl ⟨I3993, A3993, (show Md [28, 30, 31, 32, 33, 34] I I3993 from (Md.tr (Md.tr Md.rf hI3717 rfl) hI3993 rfl)), (show Md [21, 22, 23] A A3993 from (Md.tr (Md.tr Md.rf hA3717 rfl) hA3993 rfl)), hV3993, y3992, rfl, rfl⟩ dX11_distance_26
def wo_k239_X2_endsBound : List Cond := [Cond.fieldLink RX2 24 "WarpDesk$Fit" "length" "I", Cond.fieldLink RX2 9 "WarpDesk$Fit" "left" "[I", Cond.fieldLink RX2 15 "WarpDesk$Fit" "right" "[I", Cond.methodLink RX2 65 yX2_costOf, Cond.instanceMethod yX2_costOf, Cond.selects RX2 yX2_costOf yX2_costOf, Cond.initialized RX2]
def wz_k239_X2_endsBound : List Cond := .code yX2_endsBound cX2_endsBound 2 (some .int) :: (wo_k239_X2_endsBound ++ (wsX20 ++ (wz_k235_X2_costOf ++ ([] : List Cond))))
theorem zg_k239_X2_endsBound : ∀ w ∈ wz_k239_X2_endsBound, goodWord w = true := zg_cons rfl (zg_app (by decide +kernel) (zg_app zgU_wsX20 (zg_app zg_k235_X2_costOf zg_nil)))
theorem zi_k239_X2_endsBound : ∀ w ∈ wz_k239_X2_endsBound, w ∈ lw_tbl := zi_cons zw_1024 (zi_app (zi_cons zw_343 (zi_cons zw_334 (zi_cons zw_337 (zi_cons zw_1005 (zi_cons zw_1007 (zi_cons zw_30 (zi_cons zw_112 zi_nil))))))) (zi_app inX2 (zi_app zi_k235_X2_costOf zi_nil)))
set_option maxHeartbeats 4000000 in
set_option maxRecDepth 100000 in
theorem k239_X2_endsBound (l : Launch) (D : va_G) (zt : Nat × Nat × Nat × (Nat → Nat) × (Nat → Nat)) (q : Nat → Nat) (d : Nat → ClassId) (I : Nat → Int32) (A : Nat → Nat → Int32) (hIv : IvX I A) : GM l D zt (tyX d) yX2_endsBound wz_k239_X2_endsBound ({ frames := 1, cells := 0, slots := 0, locals := 23 } : Room) [.ref (q 38)] (wX q d I A) (fun v _ w' => ∃ y0 : Int32, v = some (.int y0) ∧ w' = wX q d I A) 0 0 := by
  refine GM.of (cc := cX2_endsBound) (maxL := 2) (ret := (some .int)) (own := RX2) (lv := [(0, .ref (q 38))]) (by decide) rfl rfl (Nat.le_of_ble_eq_true rfl) rfl (fun κ sz hk hR hN => ?_)
  have hin2 : ∀ w ∈ u_ws RX2 TX2 10, w ∈ wz_k239_X2_endsBound := fun w h => (List.mem_cons_of_mem _ (List.mem_append_right _ (List.mem_append_left _ h)))
  refine g_aload_n hk dX2_endsBound_0 rfl ?_
  refine gX_i30 (v := (I 30)) hk hin2 (List.mem_cons_of_mem _ (List.mem_append_left _ (List.mem_of_getElem? (i := 0) rfl))) dX2_endsBound_1 rfl ?_
  have f4001 := IvX_f30 hIv
  refine g_iconst (v := 1) hk dX2_endsBound_4 (by decide) ?_
  refine g_isub hk dX2_endsBound_5 ?_
  refine g_topi (fun y4002 ey4002 => ?_)
  have hy4002 : y4002.toInt = (I 30).toInt - 1 := i32_sub ey4002 rfl rfl (by omega) (by omega)
  refine g_istore_n (lv' := [(1, .int y4002), (0, .ref (q 38))]) hk dX2_endsBound_6 (by decide) rfl ?_
  refine g_aload_n hk dX2_endsBound_7 rfl ?_
  refine g_aload_n hk dX2_endsBound_8 rfl ?_
  refine gX_r38_0 hk hin2 (List.mem_cons_of_mem _ (List.mem_append_left _ (List.mem_of_getElem? (i := 1) rfl))) dX2_endsBound_9 ?_
  refine g_iconst (v := 0) hk dX2_endsBound_12 (by decide) ?_
  refine lX_21 (v := (A 21 0)) hk (vp_in_iff.mpr ⟨by decide, by decide⟩) rfl dX2_endsBound_13 ?_
  refine g_aload_n hk dX2_endsBound_14 rfl ?_
  refine gX_r38_1 hk hin2 (List.mem_cons_of_mem _ (List.mem_append_left _ (List.mem_of_getElem? (i := 2) rfl))) dX2_endsBound_15 ?_
  refine g_iconst (v := 0) hk dX2_endsBound_18 (by decide) ?_
  refine lX_22 (v := (A 22 0)) hk (vp_in_iff.mpr ⟨by decide, by decide⟩) rfl dX2_endsBound_19 ?_
  refine g_callV (n := 2) hk (k235_X2_costOf l D zt q d I A (A 21 0) (A 22 0) hIv) (SP.same _) (fun _ h => h) (gi_V (List.mem_cons_of_mem _ (List.mem_append_left _ (List.mem_of_getElem? (i := 3) rfl))) (List.mem_cons_of_mem _ (List.mem_append_left _ (List.mem_of_getElem? (i := 4) rfl))) (List.mem_cons_of_mem _ (List.mem_append_left _ (List.mem_of_getElem? (i := 5) rfl))) (List.mem_cons_of_mem _ (List.mem_append_left _ (List.mem_of_getElem? (i := 6) rfl))) (gi_sub (fun w h => (List.mem_cons_of_mem _ (List.mem_append_right _ (List.mem_append_right _ (List.mem_append_left _ h))))) zg_k235_X2_costOf)) rfl rfl rfl (by decide +kernel) ⟨Nat.le_of_ble_eq_true rfl, Nat.le_of_ble_eq_true rfl⟩ 38 rfl rfl rfl rfl (Nat.le_of_ble_eq_true rfl) ⟨Nat.le_of_ble_eq_true rfl, Nat.le_of_ble_eq_true rfl⟩ dX2_endsBound_20 (fun v ty' w' hp hk' => ?_)
  obtain ⟨y4003, rfl, rfl⟩ := hp
  show GW κ 2 0 0 (wX q d I A) 23 [(1, .int y4002), (0, .ref (q 38))] [.int y4003]
  refine g_aload_n hk dX2_endsBound_23 rfl ?_
  refine g_aload_n hk dX2_endsBound_24 rfl ?_
  refine gX_r38_0 hk hin2 (List.mem_cons_of_mem _ (List.mem_append_left _ (List.mem_of_getElem? (i := 1) rfl))) dX2_endsBound_25 ?_
  refine g_iload_n hk dX2_endsBound_28 rfl ?_
  refine lX_21 (v := (A 21 y4002.toNatClampNeg)) hk (vp_in_iff.mpr ⟨by omega, by omega⟩) rfl dX2_endsBound_29 ?_
  refine g_aload_n hk dX2_endsBound_30 rfl ?_
  refine gX_r38_1 hk hin2 (List.mem_cons_of_mem _ (List.mem_append_left _ (List.mem_of_getElem? (i := 2) rfl))) dX2_endsBound_31 ?_
  refine g_iload_n hk dX2_endsBound_34 rfl ?_
  refine lX_22 (v := (A 22 y4002.toNatClampNeg)) hk (vp_in_iff.mpr ⟨by omega, by omega⟩) rfl dX2_endsBound_35 ?_
  refine g_callV (n := 2) hk (k235_X2_costOf l D zt q d I A (A 21 y4002.toNatClampNeg) (A 22 y4002.toNatClampNeg) hIv) (SP.same _) (fun _ h => h) (gi_V (List.mem_cons_of_mem _ (List.mem_append_left _ (List.mem_of_getElem? (i := 3) rfl))) (List.mem_cons_of_mem _ (List.mem_append_left _ (List.mem_of_getElem? (i := 4) rfl))) (List.mem_cons_of_mem _ (List.mem_append_left _ (List.mem_of_getElem? (i := 5) rfl))) (List.mem_cons_of_mem _ (List.mem_append_left _ (List.mem_of_getElem? (i := 6) rfl))) (gi_sub (fun w h => (List.mem_cons_of_mem _ (List.mem_append_right _ (List.mem_append_right _ (List.mem_append_left _ h))))) zg_k235_X2_costOf)) rfl rfl rfl (by decide +kernel) ⟨Nat.le_of_ble_eq_true rfl, Nat.le_of_ble_eq_true rfl⟩ 38 rfl rfl rfl rfl (Nat.le_of_ble_eq_true rfl) ⟨Nat.le_of_ble_eq_true rfl, Nat.le_of_ble_eq_true rfl⟩ dX2_endsBound_36 (fun v ty' w' hp hk' => ?_)
  obtain ⟨y4004, rfl, rfl⟩ := hp
  show GW κ 2 0 0 (wX q d I A) 39 [(1, .int y4002), (0, .ref (q 38))] [.int y4004, .int y4003]
  have b4005l := Int32.le_toInt y4003
  have b4005h := Int32.toInt_lt y4003
  have b4006l := Int32.le_toInt y4004
  have b4006h := Int32.toInt_lt y4004
  refine g_iadd hk dX2_endsBound_39 ?_
  refine g_topi (fun y4007 ey4007 => ?_)
  have b4008l := Int32.le_toInt y4007
  have b4008h := Int32.toInt_lt y4007
  exact g_iret hk hR rfl ⟨y4007, rfl, rfl⟩ dX2_endsBound_40
def wo_k242_X2_outsideCost : List Cond := [Cond.fieldLink RX2 37 "WarpDesk$Fit" "band" "I", Cond.methodLink RX2 34 Lib.Math.max.name, Cond.static Lib.Math.max.name, Cond.initialized "java/lang/Math", Cond.code Lib.Math.max.name Lib.Math.max.code 2 (some .int), Cond.fieldLink RX2 24 "WarpDesk$Fit" "length" "I", Cond.methodLink RX2 28 Lib.Math.min.name, Cond.static Lib.Math.min.name, Cond.code Lib.Math.min.name Lib.Math.min.code 2 (some .int), Cond.methodLink RX2 65 yX2_costOf, Cond.instanceMethod yX2_costOf, Cond.selects RX2 yX2_costOf yX2_costOf, Cond.initialized RX2]
def wz_k242_X2_outsideCost : List Cond := .code yX2_outsideCost cX2_outsideCost 10 (some .int) :: (wo_k242_X2_outsideCost ++ (wsX20 ++ (wz_k235_X2_costOf ++ ([] : List Cond))))
theorem zg_k242_X2_outsideCost : ∀ w ∈ wz_k242_X2_outsideCost, goodWord w = true := zg_cons rfl (zg_app (by decide +kernel) (zg_app zgU_wsX20 (zg_app zg_k235_X2_costOf zg_nil)))
theorem zi_k242_X2_outsideCost : ∀ w ∈ wz_k242_X2_outsideCost, w ∈ lw_tbl := zi_cons zw_1036 (zi_app (zi_cons zw_344 (zi_cons zw_943 (zi_cons zw_920 (zi_cons zw_120 (zi_cons zw_921 (zi_cons zw_343 (zi_cons zw_942 (zi_cons zw_829 (zi_cons zw_830 (zi_cons zw_1005 (zi_cons zw_1007 (zi_cons zw_30 (zi_cons zw_112 zi_nil))))))))))))) (zi_app inX2 (zi_app zi_k235_X2_costOf zi_nil)))
set_option maxHeartbeats 4000000 in
set_option maxRecDepth 100000 in
theorem k242_X2_outsideCost (l : Launch) (D : va_G) (zt : Nat × Nat × Nat × (Nat → Nat) × (Nat → Nat)) (q : Nat → Nat) (d : Nat → ClassId) (I : Nat → Int32) (A : Nat → Nat → Int32) (z1 : Int32) (z3 : Int32) (hIv : IvX I A) (hp0 : 0 ≤ z3.toInt) (hp1 : z3.toInt ≤ 15) : GM l D zt (tyX d) yX2_outsideCost wz_k242_X2_outsideCost ({ frames := 1, cells := 0, slots := 0, locals := 23 } : Room) [.ref (q 38), .int z1, .ref (q 39), .int z3] (wX q d I A) (fun v _ w' => ∃ y0 : Int32, v = some (.int y0) ∧ w' = wX q d I A) 0 0 := by
  refine GM.of (cc := cX2_outsideCost) (maxL := 10) (ret := (some .int)) (own := RX2) (lv := [(0, .ref (q 38)), (1, .int z1), (2, .ref (q 39)), (3, .int z3)]) (by decide) rfl rfl (Nat.le_of_ble_eq_true rfl) rfl (fun κ sz hk hR hN => ?_)
  have hin2 : ∀ w ∈ u_ws RX2 TX2 10, w ∈ wz_k242_X2_outsideCost := fun w h => (List.mem_cons_of_mem _ (List.mem_append_right _ (List.mem_append_left _ h)))
  refine g_iconst (v := 0) hk dX2_outsideCost_0 (by decide) ?_
  refine g_iload_n hk dX2_outsideCost_1 rfl ?_
  refine g_aload_n hk dX2_outsideCost_2 rfl ?_
  refine gX_i31 (v := (I 31)) hk hin2 (List.mem_cons_of_mem _ (List.mem_append_left _ (List.mem_of_getElem? (i := 0) rfl))) dX2_outsideCost_3 rfl ?_
  have f4019 := IvX_f31 hIv
  have b4020l := Int32.le_toInt (I 31)
  have b4020h := Int32.toInt_lt (I 31)
  refine g_isub hk dX2_outsideCost_6 ?_
  refine g_topi (fun y4021 ey4021 => ?_)
  have hy4021 : y4021.toInt = z3.toInt - (I 31).toInt := i32_sub ey4021 rfl rfl (by omega) (by omega)
  refine g_mmax hk (List.mem_cons_of_mem _ (List.mem_append_left _ (List.mem_of_getElem? (i := 1) rfl))) (List.mem_cons_of_mem _ (List.mem_append_left _ (List.mem_of_getElem? (i := 2) rfl))) (List.mem_cons_of_mem _ (List.mem_append_left _ (List.mem_of_getElem? (i := 3) rfl))) (List.mem_cons_of_mem _ (List.mem_append_left _ (List.mem_of_getElem? (i := 4) rfl))) (Nat.le_of_ble_eq_true rfl) (Nat.le_of_ble_eq_true rfl) (Nat.le_of_ble_eq_true rfl) (Nat.le_of_ble_eq_true rfl) dX2_outsideCost_7 ?_
  refine g_topi (fun y4022 ey4022 => ?_)
  have k4023 : (0 : Int32).toInt = 0 := rfl
  have hy4022 := i32_max ey4022
  refine g_istore (lv' := [(4, .int y4022), (0, .ref (q 38)), (1, .int z1), (2, .ref (q 39)), (3, .int z3)]) hk dX2_outsideCost_10 (by decide) rfl ?_
  refine g_aload_n hk dX2_outsideCost_12 rfl ?_
  refine gX_i30 (v := (I 30)) hk hin2 (List.mem_cons_of_mem _ (List.mem_append_left _ (List.mem_of_getElem? (i := 5) rfl))) dX2_outsideCost_13 rfl ?_
  have f4024 := IvX_f30 hIv
  refine g_iconst (v := 1) hk dX2_outsideCost_16 (by decide) ?_
  refine g_isub hk dX2_outsideCost_17 ?_
  refine g_topi (fun y4025 ey4025 => ?_)
  have hy4025 : y4025.toInt = (I 30).toInt - 1 := i32_sub ey4025 rfl rfl (by omega) (by omega)
  refine g_iload_n hk dX2_outsideCost_18 rfl ?_
  refine g_aload_n hk dX2_outsideCost_19 rfl ?_
  refine gX_i31 (v := (I 31)) hk hin2 (List.mem_cons_of_mem _ (List.mem_append_left _ (List.mem_of_getElem? (i := 0) rfl))) dX2_outsideCost_20 rfl ?_
  refine g_iadd hk dX2_outsideCost_23 ?_
  refine g_topi (fun y4026 ey4026 => ?_)
  have b4027l := Int32.le_toInt y4026
  have b4027h := Int32.toInt_lt y4026
  refine g_mmin hk (List.mem_cons_of_mem _ (List.mem_append_left _ (List.mem_of_getElem? (i := 6) rfl))) (List.mem_cons_of_mem _ (List.mem_append_left _ (List.mem_of_getElem? (i := 7) rfl))) (List.mem_cons_of_mem _ (List.mem_append_left _ (List.mem_of_getElem? (i := 3) rfl))) (List.mem_cons_of_mem _ (List.mem_append_left _ (List.mem_of_getElem? (i := 8) rfl))) (Nat.le_of_ble_eq_true rfl) (Nat.le_of_ble_eq_true rfl) (Nat.le_of_ble_eq_true rfl) (Nat.le_of_ble_eq_true rfl) dX2_outsideCost_24 ?_
  refine g_topi (fun y4028 ey4028 => ?_)
  have hy4028 := i32_min ey4028
  refine g_istore (lv' := [(5, .int y4028), (4, .int y4022), (0, .ref (q 38)), (1, .int z1), (2, .ref (q 39)), (3, .int z3)]) hk dX2_outsideCost_27 (by decide) rfl ?_
  refine g_aload_n hk dX2_outsideCost_29 rfl ?_
  refine g_iload hk dX2_outsideCost_30 rfl ?_
  refine lX_21 (v := (A 21 y4022.toNatClampNeg)) hk (vp_in_iff.mpr ⟨by omega, by omega⟩) rfl dX2_outsideCost_32 ?_
  refine g_istore (lv' := [(6, .int (A 21 y4022.toNatClampNeg)), (5, .int y4028), (4, .int y4022), (0, .ref (q 38)), (1, .int z1), (2, .ref (q 39)), (3, .int z3)]) hk dX2_outsideCost_33 (by decide) rfl ?_
  refine g_iload hk dX2_outsideCost_35 rfl ?_
  refine g_istore (lv' := [(7, .int (A 21 y4022.toNatClampNeg)), (6, .int (A 21 y4022.toNatClampNeg)), (5, .int y4028), (4, .int y4022), (0, .ref (q 38)), (1, .int z1), (2, .ref (q 39)), (3, .int z3)]) hk dX2_outsideCost_37 (by decide) rfl ?_
  refine g_iload hk dX2_outsideCost_39 rfl ?_
  refine g_iconst (v := 1) hk dX2_outsideCost_41 (by decide) ?_
  refine g_iadd hk dX2_outsideCost_42 ?_
  refine g_topi (fun y4029 ey4029 => ?_)
  have hy4029 : y4029.toInt = y4022.toInt + 1 := i32_add ey4029 rfl rfl (by omega) (by omega)
  refine g_istore (lv' := [(8, .int y4029), (7, .int (A 21 y4022.toNatClampNeg)), (6, .int (A 21 y4022.toNatClampNeg)), (5, .int y4028), (4, .int y4022), (0, .ref (q 38)), (1, .int z1), (2, .ref (q 39)), (3, .int z3)]) hk dX2_outsideCost_43 (by decide) rfl ?_
  have lp4074 : ∀ (n4075 : Nat) (x4030 : Int32) (x4031 : Int32) (x4032 : Int32), (1 ≤ x4030.toInt) → (x4030.toInt ≤ 16) → (16 - x4030.toInt < (n4075 : Int)) → (0 < n4075) → GW κ 10 0 0 (wX q d I A) 45 [(8, .int x4030), (7, .int x4031), (6, .int x4032), (5, .int y4028), (4, .int y4022), (0, .ref (q 38)), (1, .int z1), (2, .ref (q 39)), (3, .int z3)] [] := by
    intro n4075
    induction n4075 with
    | zero =>
      intro x4030 x4031 x4032 h4072 h4073 m4076 m4076z
      exact absurd m4076z (Nat.lt_irrefl 0)
    | succ n4075 ih =>
      intro x4030 x4031 x4032 h4072 h4073 m4076 m4076z
      refine g_iload hk dX2_outsideCost_45 rfl ?_
      refine g_iload hk dX2_outsideCost_47 rfl ?_
      have b4077l := Int32.le_toInt y4028
      have b4077h := Int32.toInt_lt y4028
      refine g_icmp_gt (tgt := 89) (a := x4030.toInt) (b := y4028.toInt) hk dX2_outsideCost_49 (by decide) rfl rfl (fun c4078 => ?_) (fun c4078 => ?_)
      · skip
        refine g_iload_n hk dX2_outsideCost_89 rfl ?_
        refine g_iload hk dX2_outsideCost_90 rfl ?_
        have b4079l := Int32.le_toInt z1
        have b4079h := Int32.toInt_lt z1
        have b4080l := Int32.le_toInt x4031
        have b4080h := Int32.toInt_lt x4031
        refine g_icmp_le (tgt := 103) (a := z1.toInt) (b := x4031.toInt) hk dX2_outsideCost_92 (by decide) rfl rfl (fun c4081 => ?_) (fun c4081 => ?_)
        · skip
          refine g_iload_n hk dX2_outsideCost_103 rfl ?_
          refine g_iload hk dX2_outsideCost_104 rfl ?_
          have b4082l := Int32.le_toInt x4032
          have b4082h := Int32.toInt_lt x4032
          refine g_icmp_ge (tgt := 119) (a := z1.toInt) (b := x4032.toInt) hk dX2_outsideCost_106 (by decide) rfl rfl (fun c4083 => ?_) (fun c4083 => ?_)
          · skip
            refine g_iconst (v := 0) hk dX2_outsideCost_119 (by decide) ?_
            exact g_iret hk hR rfl ⟨0, rfl, rfl⟩ dX2_outsideCost_120
          · skip
            refine g_aload_n hk dX2_outsideCost_109 rfl ?_
            refine g_iload_n hk dX2_outsideCost_110 rfl ?_
            refine g_iload hk dX2_outsideCost_111 rfl ?_
            refine g_callV (n := 2) hk (k235_X2_costOf l D zt q d I A z1 x4032 hIv) (SP.same _) (fun _ h => h) (gi_V (List.mem_cons_of_mem _ (List.mem_append_left _ (List.mem_of_getElem? (i := 9) rfl))) (List.mem_cons_of_mem _ (List.mem_append_left _ (List.mem_of_getElem? (i := 10) rfl))) (List.mem_cons_of_mem _ (List.mem_append_left _ (List.mem_of_getElem? (i := 11) rfl))) (List.mem_cons_of_mem _ (List.mem_append_left _ (List.mem_of_getElem? (i := 12) rfl))) (gi_sub (fun w h => (List.mem_cons_of_mem _ (List.mem_append_right _ (List.mem_append_right _ (List.mem_append_left _ h))))) zg_k235_X2_costOf)) rfl rfl rfl (by decide +kernel) ⟨Nat.le_of_ble_eq_true rfl, Nat.le_of_ble_eq_true rfl⟩ 38 rfl rfl rfl rfl (Nat.le_of_ble_eq_true rfl) ⟨Nat.le_of_ble_eq_true rfl, Nat.le_of_ble_eq_true rfl⟩ dX2_outsideCost_113 (fun v ty' w' hp hk' => ?_)
            obtain ⟨y4084, rfl, rfl⟩ := hp
            show GW κ 10 0 0 (wX q d I A) 116 [(8, .int x4030), (7, .int x4031), (6, .int x4032), (5, .int y4028), (4, .int y4022), (0, .ref (q 38)), (1, .int z1), (2, .ref (q 39)), (3, .int z3)] [.int y4084]
            refine g_goto (tgt := 120) hk dX2_outsideCost_116 (by decide) ?_
            have b4085l := Int32.le_toInt y4084
            have b4085h := Int32.toInt_lt y4084
            exact g_iret hk hR rfl ⟨y4084, rfl, rfl⟩ dX2_outsideCost_120
        · skip
          refine g_aload_n hk dX2_outsideCost_95 rfl ?_
          refine g_iload_n hk dX2_outsideCost_96 rfl ?_
          refine g_iload hk dX2_outsideCost_97 rfl ?_
          refine g_callV (n := 2) hk (k235_X2_costOf l D zt q d I A z1 x4031 hIv) (SP.same _) (fun _ h => h) (gi_V (List.mem_cons_of_mem _ (List.mem_append_left _ (List.mem_of_getElem? (i := 9) rfl))) (List.mem_cons_of_mem _ (List.mem_append_left _ (List.mem_of_getElem? (i := 10) rfl))) (List.mem_cons_of_mem _ (List.mem_append_left _ (List.mem_of_getElem? (i := 11) rfl))) (List.mem_cons_of_mem _ (List.mem_append_left _ (List.mem_of_getElem? (i := 12) rfl))) (gi_sub (fun w h => (List.mem_cons_of_mem _ (List.mem_append_right _ (List.mem_append_right _ (List.mem_append_left _ h))))) zg_k235_X2_costOf)) rfl rfl rfl (by decide +kernel) ⟨Nat.le_of_ble_eq_true rfl, Nat.le_of_ble_eq_true rfl⟩ 38 rfl rfl rfl rfl (Nat.le_of_ble_eq_true rfl) ⟨Nat.le_of_ble_eq_true rfl, Nat.le_of_ble_eq_true rfl⟩ dX2_outsideCost_99 (fun v ty' w' hp hk' => ?_)
          obtain ⟨y4086, rfl, rfl⟩ := hp
          show GW κ 10 0 0 (wX q d I A) 102 [(8, .int x4030), (7, .int x4031), (6, .int x4032), (5, .int y4028), (4, .int y4022), (0, .ref (q 38)), (1, .int z1), (2, .ref (q 39)), (3, .int z3)] [.int y4086]
          have b4087l := Int32.le_toInt y4086
          have b4087h := Int32.toInt_lt y4086
          exact g_iret hk hR rfl ⟨y4086, rfl, rfl⟩ dX2_outsideCost_102
      · skip
        refine g_aload_n hk dX2_outsideCost_52 rfl ?_
        refine g_iload hk dX2_outsideCost_53 rfl ?_
        refine lX_21 (v := (A 21 x4030.toNatClampNeg)) hk (vp_in_iff.mpr ⟨by omega, by omega⟩) rfl dX2_outsideCost_55 ?_
        refine g_istore (lv' := [(9, .int (A 21 x4030.toNatClampNeg)), (8, .int x4030), (7, .int x4031), (6, .int x4032), (5, .int y4028), (4, .int y4022), (0, .ref (q 38)), (1, .int z1), (2, .ref (q 39)), (3, .int z3)]) hk dX2_outsideCost_56 (by decide) rfl ?_
        refine g_iload hk dX2_outsideCost_58 rfl ?_
        refine g_iload hk dX2_outsideCost_60 rfl ?_
        have b4088l := Int32.le_toInt (A 21 x4030.toNatClampNeg)
        have b4088h := Int32.toInt_lt (A 21 x4030.toNatClampNeg)
        have b4089l := Int32.le_toInt x4032
        have b4089h := Int32.toInt_lt x4032
        refine g_icmp_ge (tgt := 72) (a := (A 21 x4030.toNatClampNeg).toInt) (b := x4032.toInt) hk dX2_outsideCost_62 (by decide) rfl rfl (fun c4090 => ?_) (fun c4090 => ?_)
        · skip
          refine g_iload hk dX2_outsideCost_72 rfl ?_
          refine g_iload hk dX2_outsideCost_74 rfl ?_
          have b4091l := Int32.le_toInt x4031
          have b4091h := Int32.toInt_lt x4031
          refine g_icmp_le (tgt := 83) (a := (A 21 x4030.toNatClampNeg).toInt) (b := x4031.toInt) hk dX2_outsideCost_76 (by decide) rfl rfl (fun c4092 => ?_) (fun c4092 => ?_)
          · skip
            obtain ⟨y4093, ey4093⟩ : ∃ y : Int32, y = x4030 + Int32.ofInt 1 := ⟨_, rfl⟩
            have hy4093 : y4093.toInt = x4030.toInt + 1 := i32_add ey4093 rfl (by decide) (by omega) (by omega)
            refine g_iinc (v := y4093) (lv' := [(8, .int y4093), (9, .int (A 21 x4030.toNatClampNeg)), (7, .int x4031), (6, .int x4032), (5, .int y4028), (4, .int y4022), (0, .ref (q 38)), (1, .int z1), (2, .ref (q 39)), (3, .int z3)]) hk 1 dX2_outsideCost_83 rfl ey4093.symm (by decide) rfl ?_
            refine g_goto (tgt := 45) hk dX2_outsideCost_86 (by decide) ?_
            exact g_lv (List.forall_mem_cons.mpr ⟨List.mem_of_getElem? (i := 0) rfl, (List.forall_mem_cons.mpr ⟨List.mem_of_getElem? (i := 2) rfl, (List.forall_mem_cons.mpr ⟨List.mem_of_getElem? (i := 3) rfl, (List.forall_mem_cons.mpr ⟨List.mem_of_getElem? (i := 4) rfl, (List.forall_mem_cons.mpr ⟨List.mem_of_getElem? (i := 5) rfl, (List.forall_mem_cons.mpr ⟨List.mem_of_getElem? (i := 6) rfl, (List.forall_mem_cons.mpr ⟨List.mem_of_getElem? (i := 7) rfl, (List.forall_mem_cons.mpr ⟨List.mem_of_getElem? (i := 8) rfl, (List.forall_mem_cons.mpr ⟨List.mem_of_getElem? (i := 9) rfl, (fun _ h => absurd h List.not_mem_nil)⟩)⟩)⟩)⟩)⟩)⟩)⟩)⟩)⟩) (ih y4093 x4031 x4032 (by omega) (by omega) (by omega) (by omega))
          · skip
            refine g_iload hk dX2_outsideCost_79 rfl ?_
            refine g_istore (lv' := [(7, .int (A 21 x4030.toNatClampNeg)), (9, .int (A 21 x4030.toNatClampNeg)), (8, .int x4030), (6, .int x4032), (5, .int y4028), (4, .int y4022), (0, .ref (q 38)), (1, .int z1), (2, .ref (q 39)), (3, .int z3)]) hk dX2_outsideCost_81 (by decide) rfl ?_
            obtain ⟨y4094, ey4094⟩ : ∃ y : Int32, y = x4030 + Int32.ofInt 1 := ⟨_, rfl⟩
            have hy4094 : y4094.toInt = x4030.toInt + 1 := i32_add ey4094 rfl (by decide) (by omega) (by omega)
            refine g_iinc (v := y4094) (lv' := [(8, .int y4094), (7, .int (A 21 x4030.toNatClampNeg)), (9, .int (A 21 x4030.toNatClampNeg)), (6, .int x4032), (5, .int y4028), (4, .int y4022), (0, .ref (q 38)), (1, .int z1), (2, .ref (q 39)), (3, .int z3)]) hk 2 dX2_outsideCost_83 rfl ey4094.symm (by decide) rfl ?_
            refine g_goto (tgt := 45) hk dX2_outsideCost_86 (by decide) ?_
            exact g_lv (List.forall_mem_cons.mpr ⟨List.mem_of_getElem? (i := 0) rfl, (List.forall_mem_cons.mpr ⟨List.mem_of_getElem? (i := 1) rfl, (List.forall_mem_cons.mpr ⟨List.mem_of_getElem? (i := 3) rfl, (List.forall_mem_cons.mpr ⟨List.mem_of_getElem? (i := 4) rfl, (List.forall_mem_cons.mpr ⟨List.mem_of_getElem? (i := 5) rfl, (List.forall_mem_cons.mpr ⟨List.mem_of_getElem? (i := 6) rfl, (List.forall_mem_cons.mpr ⟨List.mem_of_getElem? (i := 7) rfl, (List.forall_mem_cons.mpr ⟨List.mem_of_getElem? (i := 8) rfl, (List.forall_mem_cons.mpr ⟨List.mem_of_getElem? (i := 9) rfl, (fun _ h => absurd h List.not_mem_nil)⟩)⟩)⟩)⟩)⟩)⟩)⟩)⟩)⟩) (ih y4094 (A 21 x4030.toNatClampNeg) x4032 (by omega) (by omega) (by omega) (by omega))
        · skip
          refine g_iload hk dX2_outsideCost_65 rfl ?_
          refine g_istore (lv' := [(6, .int (A 21 x4030.toNatClampNeg)), (9, .int (A 21 x4030.toNatClampNeg)), (8, .int x4030), (7, .int x4031), (5, .int y4028), (4, .int y4022), (0, .ref (q 38)), (1, .int z1), (2, .ref (q 39)), (3, .int z3)]) hk dX2_outsideCost_67 (by decide) rfl ?_
          refine g_goto (tgt := 83) hk dX2_outsideCost_69 (by decide) ?_
          obtain ⟨y4095, ey4095⟩ : ∃ y : Int32, y = x4030 + Int32.ofInt 1 := ⟨_, rfl⟩
          have hy4095 : y4095.toInt = x4030.toInt + 1 := i32_add ey4095 rfl (by decide) (by omega) (by omega)
          refine g_iinc (v := y4095) (lv' := [(8, .int y4095), (6, .int (A 21 x4030.toNatClampNeg)), (9, .int (A 21 x4030.toNatClampNeg)), (7, .int x4031), (5, .int y4028), (4, .int y4022), (0, .ref (q 38)), (1, .int z1), (2, .ref (q 39)), (3, .int z3)]) hk 2 dX2_outsideCost_83 rfl ey4095.symm (by decide) rfl ?_
          refine g_goto (tgt := 45) hk dX2_outsideCost_86 (by decide) ?_
          exact g_lv (List.forall_mem_cons.mpr ⟨List.mem_of_getElem? (i := 0) rfl, (List.forall_mem_cons.mpr ⟨List.mem_of_getElem? (i := 3) rfl, (List.forall_mem_cons.mpr ⟨List.mem_of_getElem? (i := 1) rfl, (List.forall_mem_cons.mpr ⟨List.mem_of_getElem? (i := 4) rfl, (List.forall_mem_cons.mpr ⟨List.mem_of_getElem? (i := 5) rfl, (List.forall_mem_cons.mpr ⟨List.mem_of_getElem? (i := 6) rfl, (List.forall_mem_cons.mpr ⟨List.mem_of_getElem? (i := 7) rfl, (List.forall_mem_cons.mpr ⟨List.mem_of_getElem? (i := 8) rfl, (List.forall_mem_cons.mpr ⟨List.mem_of_getElem? (i := 9) rfl, (fun _ h => absurd h List.not_mem_nil)⟩)⟩)⟩)⟩)⟩)⟩)⟩)⟩)⟩) (ih y4095 x4031 (A 21 x4030.toNatClampNeg) (by omega) (by omega) (by omega) (by omega))
  have b4097l := Int32.le_toInt (A 21 y4022.toNatClampNeg)
  have b4097h := Int32.toInt_lt (A 21 y4022.toNatClampNeg)
  obtain ⟨n4096, n4096a, n4096b⟩ : ∃ n : Nat, 16 - y4029.toInt < (n : Int) ∧ 0 < n := ⟨((16 - y4029.toInt : Int)).toNat + 1, by omega, by omega⟩
  exact lp4074 n4096 y4029 (A 21 y4022.toNatClampNeg) (A 21 y4022.toNatClampNeg) (by omega) (by omega) n4096a n4096b
def wo_k241_X2_envelopeBound : List Cond := [Cond.fieldLink RX2 24 "WarpDesk$Fit" "length" "I", Cond.methodLink RX2 72 yX2_outsideCost, Cond.instanceMethod yX2_outsideCost, Cond.selects RX2 yX2_outsideCost yX2_outsideCost, Cond.initialized RX2]
def wz_k241_X2_envelopeBound : List Cond := .code yX2_envelopeBound cX2_envelopeBound 5 (some .int) :: (wo_k241_X2_envelopeBound ++ (wsX20 ++ (wz_k242_X2_outsideCost ++ ([] : List Cond))))
theorem zg_k241_X2_envelopeBound : ∀ w ∈ wz_k241_X2_envelopeBound, goodWord w = true := zg_cons rfl (zg_app (by decide +kernel) (zg_app zgU_wsX20 (zg_app zg_k242_X2_outsideCost zg_nil)))
theorem zi_k241_X2_envelopeBound : ∀ w ∈ wz_k241_X2_envelopeBound, w ∈ lw_tbl := zi_cons zw_1032 (zi_app (zi_cons zw_343 (zi_cons zw_1033 (zi_cons zw_1035 (zi_cons zw_33 (zi_cons zw_112 zi_nil))))) (zi_app inX2 (zi_app zi_k242_X2_outsideCost zi_nil)))
set_option maxHeartbeats 4000000 in
set_option maxRecDepth 100000 in
theorem k241_X2_envelopeBound (l : Launch) (D : va_G) (zt : Nat × Nat × Nat × (Nat → Nat) × (Nat → Nat)) (q : Nat → Nat) (d : Nat → ClassId) (I : Nat → Int32) (A : Nat → Nat → Int32) (hIv : IvX I A) : GM l D zt (tyX d) yX2_envelopeBound wz_k241_X2_envelopeBound ({ frames := 2, cells := 0, slots := 0, locals := 52 } : Room) [.ref (q 38), .ref (q 40), .ref (q 39)] (wX q d I A) (fun v _ w' => ∃ y0 : Int32, v = some (.int y0) ∧ w' = wX q d I A) 0 0 := by
  refine GM.of (cc := cX2_envelopeBound) (maxL := 5) (ret := (some .int)) (own := RX2) (lv := [(0, .ref (q 38)), (1, .ref (q 40)), (2, .ref (q 39))]) (by decide) rfl rfl (Nat.le_of_ble_eq_true rfl) rfl (fun κ sz hk hR hN => ?_)
  have hin2 : ∀ w ∈ u_ws RX2 TX2 10, w ∈ wz_k241_X2_envelopeBound := fun w h => (List.mem_cons_of_mem _ (List.mem_append_right _ (List.mem_append_left _ h)))
  refine g_iconst (v := 0) hk dX2_envelopeBound_0 (by decide) ?_
  refine g_istore_n (lv' := [(3, .int 0), (0, .ref (q 38)), (1, .ref (q 40)), (2, .ref (q 39))]) hk dX2_envelopeBound_1 (by decide) rfl ?_
  refine g_iconst (v := 0) hk dX2_envelopeBound_2 (by decide) ?_
  refine g_istore (lv' := [(4, .int 0), (3, .int 0), (0, .ref (q 38)), (1, .ref (q 40)), (2, .ref (q 39))]) hk dX2_envelopeBound_3 (by decide) rfl ?_
  have lp4126 : ∀ (n4127 : Nat) (x4012 : Int32) (x4013 : Int32), (0 ≤ x4012.toInt) → (x4012.toInt ≤ 16) → (17 - x4012.toInt < (n4127 : Int)) → (0 < n4127) → GW κ 5 0 0 (wX q d I A) 5 [(4, .int x4012), (3, .int x4013), (0, .ref (q 38)), (1, .ref (q 40)), (2, .ref (q 39))] [] := by
    intro n4127
    induction n4127 with
    | zero =>
      intro x4012 x4013 h4124 h4125 m4128 m4128z
      exact absurd m4128z (Nat.lt_irrefl 0)
    | succ n4127 ih =>
      intro x4012 x4013 h4124 h4125 m4128 m4128z
      refine g_iload hk dX2_envelopeBound_5 rfl ?_
      refine g_aload_n hk dX2_envelopeBound_7 rfl ?_
      refine gX_i30 (v := (I 30)) hk hin2 (List.mem_cons_of_mem _ (List.mem_append_left _ (List.mem_of_getElem? (i := 0) rfl))) dX2_envelopeBound_8 rfl ?_
      have f4129 := IvX_f30 hIv
      refine g_icmp_ge (tgt := 41) (a := x4012.toInt) (b := (I 30).toInt) hk dX2_envelopeBound_11 (by decide) rfl rfl (fun c4130 => ?_) (fun c4130 => ?_)
      · skip
        refine g_iload_n hk dX2_envelopeBound_41 rfl ?_
        have b4131l := Int32.le_toInt x4013
        have b4131h := Int32.toInt_lt x4013
        exact g_iret hk hR rfl ⟨x4013, rfl, rfl⟩ dX2_envelopeBound_42
      · skip
        refine g_iload hk dX2_envelopeBound_14 rfl ?_
        refine g_aload_n hk dX2_envelopeBound_16 rfl ?_
        refine nX_22 hk dX2_envelopeBound_17 ?_
        refine g_icmp_ge (tgt := 41) (a := x4012.toInt) (b := 16) hk dX2_envelopeBound_18 (by decide) rfl rfl (fun z9 => absurd z9 (show ¬ (16 ≤ x4012.toInt) from by omega)) (fun _ => ?_)
        refine g_iload_n hk dX2_envelopeBound_21 rfl ?_
        refine g_aload_n hk dX2_envelopeBound_22 rfl ?_
        refine g_aload_n hk dX2_envelopeBound_23 rfl ?_
        refine g_iload hk dX2_envelopeBound_24 rfl ?_
        refine lX_22 (v := (A 22 x4012.toNatClampNeg)) hk (vp_in_iff.mpr ⟨by omega, by omega⟩) rfl dX2_envelopeBound_26 ?_
        refine g_aload_n hk dX2_envelopeBound_27 rfl ?_
        refine g_iload hk dX2_envelopeBound_28 rfl ?_
        refine g_callV (n := 3) hk (k242_X2_outsideCost l D zt q d I A (A 22 x4012.toNatClampNeg) x4012 hIv (by omega) (by omega)) (SP.same _) (fun _ h => h) (gi_V (List.mem_cons_of_mem _ (List.mem_append_left _ (List.mem_of_getElem? (i := 1) rfl))) (List.mem_cons_of_mem _ (List.mem_append_left _ (List.mem_of_getElem? (i := 2) rfl))) (List.mem_cons_of_mem _ (List.mem_append_left _ (List.mem_of_getElem? (i := 3) rfl))) (List.mem_cons_of_mem _ (List.mem_append_left _ (List.mem_of_getElem? (i := 4) rfl))) (gi_sub (fun w h => (List.mem_cons_of_mem _ (List.mem_append_right _ (List.mem_append_right _ (List.mem_append_left _ h))))) zg_k242_X2_outsideCost)) rfl rfl rfl (by decide +kernel) ⟨Nat.le_of_ble_eq_true rfl, Nat.le_of_ble_eq_true rfl⟩ 38 rfl rfl rfl rfl (Nat.le_of_ble_eq_true rfl) ⟨Nat.le_of_ble_eq_true rfl, Nat.le_of_ble_eq_true rfl⟩ dX2_envelopeBound_30 (fun v ty' w' hp hk' => ?_)
        obtain ⟨y4132, rfl, rfl⟩ := hp
        show GW κ 5 0 0 (wX q d I A) 33 [(4, .int x4012), (3, .int x4013), (0, .ref (q 38)), (1, .ref (q 40)), (2, .ref (q 39))] [.int y4132, .int x4013]
        have b4133l := Int32.le_toInt x4013
        have b4133h := Int32.toInt_lt x4013
        have b4134l := Int32.le_toInt y4132
        have b4134h := Int32.toInt_lt y4132
        refine g_iadd hk dX2_envelopeBound_33 ?_
        refine g_topi (fun y4135 ey4135 => ?_)
        refine g_istore_n (lv' := [(3, .int y4135), (4, .int x4012), (0, .ref (q 38)), (1, .ref (q 40)), (2, .ref (q 39))]) hk dX2_envelopeBound_34 (by decide) rfl ?_
        obtain ⟨y4136, ey4136⟩ : ∃ y : Int32, y = x4012 + Int32.ofInt 1 := ⟨_, rfl⟩
        have hy4136 : y4136.toInt = x4012.toInt + 1 := i32_add ey4136 rfl (by decide) (by omega) (by omega)
        refine g_iinc (v := y4136) (lv' := [(4, .int y4136), (3, .int y4135), (0, .ref (q 38)), (1, .ref (q 40)), (2, .ref (q 39))]) hk 1 dX2_envelopeBound_35 rfl ey4136.symm (by decide) rfl ?_
        refine g_goto (tgt := 5) hk dX2_envelopeBound_38 (by decide) ?_
        exact g_lv (List.forall_mem_cons.mpr ⟨List.mem_of_getElem? (i := 0) rfl, (List.forall_mem_cons.mpr ⟨List.mem_of_getElem? (i := 1) rfl, (List.forall_mem_cons.mpr ⟨List.mem_of_getElem? (i := 2) rfl, (List.forall_mem_cons.mpr ⟨List.mem_of_getElem? (i := 3) rfl, (List.forall_mem_cons.mpr ⟨List.mem_of_getElem? (i := 4) rfl, (fun _ h => absurd h List.not_mem_nil)⟩)⟩)⟩)⟩)⟩) (ih y4136 y4135 (by omega) (by omega) (by omega) (by omega))
  have k4138 : (0 : Int32).toInt = 0 := rfl
  obtain ⟨n4137, n4137a, n4137b⟩ : ∃ n : Nat, 17 - 0 < (n : Int) ∧ 0 < n := ⟨((17 - 0 : Int)).toNat + 1, by omega, by omega⟩
  exact lp4126 n4137 0 0 (by omega) (by omega) n4137a n4137b
def wo_k240_X2_overBound : List Cond := [Cond.fieldLink RX2 15 "WarpDesk$Fit" "right" "[I", Cond.fieldLink RX2 9 "WarpDesk$Fit" "left" "[I", Cond.methodLink RX2 68 yX2_envelopeBound, Cond.instanceMethod yX2_envelopeBound, Cond.selects RX2 yX2_envelopeBound yX2_envelopeBound, Cond.initialized RX2]
def wz_k240_X2_overBound : List Cond := .code yX2_overBound cX2_overBound 1 (some .int) :: (wo_k240_X2_overBound ++ (wsX20 ++ (wz_k241_X2_envelopeBound ++ ([] : List Cond))))
theorem zg_k240_X2_overBound : ∀ w ∈ wz_k240_X2_overBound, goodWord w = true := zg_cons rfl (zg_app (by decide +kernel) (zg_app zgU_wsX20 (zg_app zg_k241_X2_envelopeBound zg_nil)))
theorem zi_k240_X2_overBound : ∀ w ∈ wz_k240_X2_overBound, w ∈ lw_tbl := zi_cons zw_1028 (zi_app (zi_cons zw_337 (zi_cons zw_334 (zi_cons zw_1029 (zi_cons zw_1031 (zi_cons zw_32 (zi_cons zw_112 zi_nil)))))) (zi_app inX2 (zi_app zi_k241_X2_envelopeBound zi_nil)))
set_option maxHeartbeats 4000000 in
set_option maxRecDepth 100000 in
theorem k240_X2_overBound (l : Launch) (D : va_G) (zt : Nat × Nat × Nat × (Nat → Nat) × (Nat → Nat)) (q : Nat → Nat) (d : Nat → ClassId) (I : Nat → Int32) (A : Nat → Nat → Int32) (hIv : IvX I A) : GM l D zt (tyX d) yX2_overBound wz_k240_X2_overBound ({ frames := 3, cells := 0, slots := 0, locals := 76 } : Room) [.ref (q 38)] (wX q d I A) (fun v _ w' => ∃ y0 : Int32, v = some (.int y0) ∧ w' = wX q d I A) 0 0 := by
  refine GM.of (cc := cX2_overBound) (maxL := 1) (ret := (some .int)) (own := RX2) (lv := [(0, .ref (q 38))]) (by decide) rfl rfl (Nat.le_of_ble_eq_true rfl) rfl (fun κ sz hk hR hN => ?_)
  have hin2 : ∀ w ∈ u_ws RX2 TX2 10, w ∈ wz_k240_X2_overBound := fun w h => (List.mem_cons_of_mem _ (List.mem_append_right _ (List.mem_append_left _ h)))
  refine g_aload_n hk dX2_overBound_0 rfl ?_
  refine g_aload_n hk dX2_overBound_1 rfl ?_
  refine gX_r38_1 hk hin2 (List.mem_cons_of_mem _ (List.mem_append_left _ (List.mem_of_getElem? (i := 0) rfl))) dX2_overBound_2 ?_
  refine g_aload_n hk dX2_overBound_5 rfl ?_
  refine gX_r38_0 hk hin2 (List.mem_cons_of_mem _ (List.mem_append_left _ (List.mem_of_getElem? (i := 1) rfl))) dX2_overBound_6 ?_
  refine g_callV (n := 2) hk (k241_X2_envelopeBound l D zt q d I A  hIv) (SP.same _) (fun _ h => h) (gi_V (List.mem_cons_of_mem _ (List.mem_append_left _ (List.mem_of_getElem? (i := 2) rfl))) (List.mem_cons_of_mem _ (List.mem_append_left _ (List.mem_of_getElem? (i := 3) rfl))) (List.mem_cons_of_mem _ (List.mem_append_left _ (List.mem_of_getElem? (i := 4) rfl))) (List.mem_cons_of_mem _ (List.mem_append_left _ (List.mem_of_getElem? (i := 5) rfl))) (gi_sub (fun w h => (List.mem_cons_of_mem _ (List.mem_append_right _ (List.mem_append_right _ (List.mem_append_left _ h))))) zg_k241_X2_envelopeBound)) rfl rfl rfl (by decide +kernel) ⟨Nat.le_of_ble_eq_true rfl, Nat.le_of_ble_eq_true rfl⟩ 38 rfl rfl rfl rfl (Nat.le_of_ble_eq_true rfl) ⟨Nat.le_of_ble_eq_true rfl, Nat.le_of_ble_eq_true rfl⟩ dX2_overBound_9 (fun v ty' w' hp hk' => ?_)
  obtain ⟨y4139, rfl, rfl⟩ := hp
  show GW κ 1 0 0 (wX q d I A) 12 [(0, .ref (q 38))] [.int y4139]
  have b4140l := Int32.le_toInt y4139
  have b4140h := Int32.toInt_lt y4139
  exact g_iret hk hR rfl ⟨y4139, rfl, rfl⟩ dX2_overBound_12
def wo_k245_X2_outsideCost : List Cond := [Cond.fieldLink RX2 37 "WarpDesk$Fit" "band" "I", Cond.methodLink RX2 34 Lib.Math.max.name, Cond.static Lib.Math.max.name, Cond.initialized "java/lang/Math", Cond.code Lib.Math.max.name Lib.Math.max.code 2 (some .int), Cond.fieldLink RX2 24 "WarpDesk$Fit" "length" "I", Cond.methodLink RX2 28 Lib.Math.min.name, Cond.static Lib.Math.min.name, Cond.code Lib.Math.min.name Lib.Math.min.code 2 (some .int), Cond.methodLink RX2 65 yX2_costOf, Cond.instanceMethod yX2_costOf, Cond.selects RX2 yX2_costOf yX2_costOf, Cond.initialized RX2]
def wz_k245_X2_outsideCost : List Cond := .code yX2_outsideCost cX2_outsideCost 10 (some .int) :: (wo_k245_X2_outsideCost ++ (wsX20 ++ (wz_k235_X2_costOf ++ ([] : List Cond))))
theorem zg_k245_X2_outsideCost : ∀ w ∈ wz_k245_X2_outsideCost, goodWord w = true := zg_cons rfl (zg_app (by decide +kernel) (zg_app zgU_wsX20 (zg_app zg_k235_X2_costOf zg_nil)))
theorem zi_k245_X2_outsideCost : ∀ w ∈ wz_k245_X2_outsideCost, w ∈ lw_tbl := zi_cons zw_1036 (zi_app (zi_cons zw_344 (zi_cons zw_943 (zi_cons zw_920 (zi_cons zw_120 (zi_cons zw_921 (zi_cons zw_343 (zi_cons zw_942 (zi_cons zw_829 (zi_cons zw_830 (zi_cons zw_1005 (zi_cons zw_1007 (zi_cons zw_30 (zi_cons zw_112 zi_nil))))))))))))) (zi_app inX2 (zi_app zi_k235_X2_costOf zi_nil)))
set_option maxHeartbeats 4000000 in
set_option maxRecDepth 100000 in
theorem k245_X2_outsideCost (l : Launch) (D : va_G) (zt : Nat × Nat × Nat × (Nat → Nat) × (Nat → Nat)) (q : Nat → Nat) (d : Nat → ClassId) (I : Nat → Int32) (A : Nat → Nat → Int32) (z1 : Int32) (z3 : Int32) (hIv : IvX I A) (hp0 : 0 ≤ z3.toInt) (hp1 : z3.toInt ≤ 15) : GM l D zt (tyX d) yX2_outsideCost wz_k245_X2_outsideCost ({ frames := 1, cells := 0, slots := 0, locals := 23 } : Room) [.ref (q 38), .int z1, .ref (q 40), .int z3] (wX q d I A) (fun v _ w' => ∃ y0 : Int32, v = some (.int y0) ∧ w' = wX q d I A) 0 0 := by
  refine GM.of (cc := cX2_outsideCost) (maxL := 10) (ret := (some .int)) (own := RX2) (lv := [(0, .ref (q 38)), (1, .int z1), (2, .ref (q 40)), (3, .int z3)]) (by decide) rfl rfl (Nat.le_of_ble_eq_true rfl) rfl (fun κ sz hk hR hN => ?_)
  have hin2 : ∀ w ∈ u_ws RX2 TX2 10, w ∈ wz_k245_X2_outsideCost := fun w h => (List.mem_cons_of_mem _ (List.mem_append_right _ (List.mem_append_left _ h)))
  refine g_iconst (v := 0) hk dX2_outsideCost_0 (by decide) ?_
  refine g_iload_n hk dX2_outsideCost_1 rfl ?_
  refine g_aload_n hk dX2_outsideCost_2 rfl ?_
  refine gX_i31 (v := (I 31)) hk hin2 (List.mem_cons_of_mem _ (List.mem_append_left _ (List.mem_of_getElem? (i := 0) rfl))) dX2_outsideCost_3 rfl ?_
  have f4151 := IvX_f31 hIv
  have b4152l := Int32.le_toInt (I 31)
  have b4152h := Int32.toInt_lt (I 31)
  refine g_isub hk dX2_outsideCost_6 ?_
  refine g_topi (fun y4153 ey4153 => ?_)
  have hy4153 : y4153.toInt = z3.toInt - (I 31).toInt := i32_sub ey4153 rfl rfl (by omega) (by omega)
  refine g_mmax hk (List.mem_cons_of_mem _ (List.mem_append_left _ (List.mem_of_getElem? (i := 1) rfl))) (List.mem_cons_of_mem _ (List.mem_append_left _ (List.mem_of_getElem? (i := 2) rfl))) (List.mem_cons_of_mem _ (List.mem_append_left _ (List.mem_of_getElem? (i := 3) rfl))) (List.mem_cons_of_mem _ (List.mem_append_left _ (List.mem_of_getElem? (i := 4) rfl))) (Nat.le_of_ble_eq_true rfl) (Nat.le_of_ble_eq_true rfl) (Nat.le_of_ble_eq_true rfl) (Nat.le_of_ble_eq_true rfl) dX2_outsideCost_7 ?_
  refine g_topi (fun y4154 ey4154 => ?_)
  have k4155 : (0 : Int32).toInt = 0 := rfl
  have hy4154 := i32_max ey4154
  refine g_istore (lv' := [(4, .int y4154), (0, .ref (q 38)), (1, .int z1), (2, .ref (q 40)), (3, .int z3)]) hk dX2_outsideCost_10 (by decide) rfl ?_
  refine g_aload_n hk dX2_outsideCost_12 rfl ?_
  refine gX_i30 (v := (I 30)) hk hin2 (List.mem_cons_of_mem _ (List.mem_append_left _ (List.mem_of_getElem? (i := 5) rfl))) dX2_outsideCost_13 rfl ?_
  have f4156 := IvX_f30 hIv
  refine g_iconst (v := 1) hk dX2_outsideCost_16 (by decide) ?_
  refine g_isub hk dX2_outsideCost_17 ?_
  refine g_topi (fun y4157 ey4157 => ?_)
  have hy4157 : y4157.toInt = (I 30).toInt - 1 := i32_sub ey4157 rfl rfl (by omega) (by omega)
  refine g_iload_n hk dX2_outsideCost_18 rfl ?_
  refine g_aload_n hk dX2_outsideCost_19 rfl ?_
  refine gX_i31 (v := (I 31)) hk hin2 (List.mem_cons_of_mem _ (List.mem_append_left _ (List.mem_of_getElem? (i := 0) rfl))) dX2_outsideCost_20 rfl ?_
  refine g_iadd hk dX2_outsideCost_23 ?_
  refine g_topi (fun y4158 ey4158 => ?_)
  have b4159l := Int32.le_toInt y4158
  have b4159h := Int32.toInt_lt y4158
  refine g_mmin hk (List.mem_cons_of_mem _ (List.mem_append_left _ (List.mem_of_getElem? (i := 6) rfl))) (List.mem_cons_of_mem _ (List.mem_append_left _ (List.mem_of_getElem? (i := 7) rfl))) (List.mem_cons_of_mem _ (List.mem_append_left _ (List.mem_of_getElem? (i := 3) rfl))) (List.mem_cons_of_mem _ (List.mem_append_left _ (List.mem_of_getElem? (i := 8) rfl))) (Nat.le_of_ble_eq_true rfl) (Nat.le_of_ble_eq_true rfl) (Nat.le_of_ble_eq_true rfl) (Nat.le_of_ble_eq_true rfl) dX2_outsideCost_24 ?_
  refine g_topi (fun y4160 ey4160 => ?_)
  have hy4160 := i32_min ey4160
  refine g_istore (lv' := [(5, .int y4160), (4, .int y4154), (0, .ref (q 38)), (1, .int z1), (2, .ref (q 40)), (3, .int z3)]) hk dX2_outsideCost_27 (by decide) rfl ?_
  refine g_aload_n hk dX2_outsideCost_29 rfl ?_
  refine g_iload hk dX2_outsideCost_30 rfl ?_
  refine lX_22 (v := (A 22 y4154.toNatClampNeg)) hk (vp_in_iff.mpr ⟨by omega, by omega⟩) rfl dX2_outsideCost_32 ?_
  refine g_istore (lv' := [(6, .int (A 22 y4154.toNatClampNeg)), (5, .int y4160), (4, .int y4154), (0, .ref (q 38)), (1, .int z1), (2, .ref (q 40)), (3, .int z3)]) hk dX2_outsideCost_33 (by decide) rfl ?_
  refine g_iload hk dX2_outsideCost_35 rfl ?_
  refine g_istore (lv' := [(7, .int (A 22 y4154.toNatClampNeg)), (6, .int (A 22 y4154.toNatClampNeg)), (5, .int y4160), (4, .int y4154), (0, .ref (q 38)), (1, .int z1), (2, .ref (q 40)), (3, .int z3)]) hk dX2_outsideCost_37 (by decide) rfl ?_
  refine g_iload hk dX2_outsideCost_39 rfl ?_
  refine g_iconst (v := 1) hk dX2_outsideCost_41 (by decide) ?_
  refine g_iadd hk dX2_outsideCost_42 ?_
  refine g_topi (fun y4161 ey4161 => ?_)
  have hy4161 : y4161.toInt = y4154.toInt + 1 := i32_add ey4161 rfl rfl (by omega) (by omega)
  refine g_istore (lv' := [(8, .int y4161), (7, .int (A 22 y4154.toNatClampNeg)), (6, .int (A 22 y4154.toNatClampNeg)), (5, .int y4160), (4, .int y4154), (0, .ref (q 38)), (1, .int z1), (2, .ref (q 40)), (3, .int z3)]) hk dX2_outsideCost_43 (by decide) rfl ?_
  have lp4206 : ∀ (n4207 : Nat) (x4162 : Int32) (x4163 : Int32) (x4164 : Int32), (1 ≤ x4162.toInt) → (x4162.toInt ≤ 16) → (16 - x4162.toInt < (n4207 : Int)) → (0 < n4207) → GW κ 10 0 0 (wX q d I A) 45 [(8, .int x4162), (7, .int x4163), (6, .int x4164), (5, .int y4160), (4, .int y4154), (0, .ref (q 38)), (1, .int z1), (2, .ref (q 40)), (3, .int z3)] [] := by
    intro n4207
    induction n4207 with
    | zero =>
      intro x4162 x4163 x4164 h4204 h4205 m4208 m4208z
      exact absurd m4208z (Nat.lt_irrefl 0)
    | succ n4207 ih =>
      intro x4162 x4163 x4164 h4204 h4205 m4208 m4208z
      refine g_iload hk dX2_outsideCost_45 rfl ?_
      refine g_iload hk dX2_outsideCost_47 rfl ?_
      have b4209l := Int32.le_toInt y4160
      have b4209h := Int32.toInt_lt y4160
      refine g_icmp_gt (tgt := 89) (a := x4162.toInt) (b := y4160.toInt) hk dX2_outsideCost_49 (by decide) rfl rfl (fun c4210 => ?_) (fun c4210 => ?_)
      · skip
        refine g_iload_n hk dX2_outsideCost_89 rfl ?_
        refine g_iload hk dX2_outsideCost_90 rfl ?_
        have b4211l := Int32.le_toInt z1
        have b4211h := Int32.toInt_lt z1
        have b4212l := Int32.le_toInt x4163
        have b4212h := Int32.toInt_lt x4163
        refine g_icmp_le (tgt := 103) (a := z1.toInt) (b := x4163.toInt) hk dX2_outsideCost_92 (by decide) rfl rfl (fun c4213 => ?_) (fun c4213 => ?_)
        · skip
          refine g_iload_n hk dX2_outsideCost_103 rfl ?_
          refine g_iload hk dX2_outsideCost_104 rfl ?_
          have b4214l := Int32.le_toInt x4164
          have b4214h := Int32.toInt_lt x4164
          refine g_icmp_ge (tgt := 119) (a := z1.toInt) (b := x4164.toInt) hk dX2_outsideCost_106 (by decide) rfl rfl (fun c4215 => ?_) (fun c4215 => ?_)
          · skip
            refine g_iconst (v := 0) hk dX2_outsideCost_119 (by decide) ?_
            exact g_iret hk hR rfl ⟨0, rfl, rfl⟩ dX2_outsideCost_120
          · skip
            refine g_aload_n hk dX2_outsideCost_109 rfl ?_
            refine g_iload_n hk dX2_outsideCost_110 rfl ?_
            refine g_iload hk dX2_outsideCost_111 rfl ?_
            refine g_callV (n := 2) hk (k235_X2_costOf l D zt q d I A z1 x4164 hIv) (SP.same _) (fun _ h => h) (gi_V (List.mem_cons_of_mem _ (List.mem_append_left _ (List.mem_of_getElem? (i := 9) rfl))) (List.mem_cons_of_mem _ (List.mem_append_left _ (List.mem_of_getElem? (i := 10) rfl))) (List.mem_cons_of_mem _ (List.mem_append_left _ (List.mem_of_getElem? (i := 11) rfl))) (List.mem_cons_of_mem _ (List.mem_append_left _ (List.mem_of_getElem? (i := 12) rfl))) (gi_sub (fun w h => (List.mem_cons_of_mem _ (List.mem_append_right _ (List.mem_append_right _ (List.mem_append_left _ h))))) zg_k235_X2_costOf)) rfl rfl rfl (by decide +kernel) ⟨Nat.le_of_ble_eq_true rfl, Nat.le_of_ble_eq_true rfl⟩ 38 rfl rfl rfl rfl (Nat.le_of_ble_eq_true rfl) ⟨Nat.le_of_ble_eq_true rfl, Nat.le_of_ble_eq_true rfl⟩ dX2_outsideCost_113 (fun v ty' w' hp hk' => ?_)
            obtain ⟨y4216, rfl, rfl⟩ := hp
            show GW κ 10 0 0 (wX q d I A) 116 [(8, .int x4162), (7, .int x4163), (6, .int x4164), (5, .int y4160), (4, .int y4154), (0, .ref (q 38)), (1, .int z1), (2, .ref (q 40)), (3, .int z3)] [.int y4216]
            refine g_goto (tgt := 120) hk dX2_outsideCost_116 (by decide) ?_
            have b4217l := Int32.le_toInt y4216
            have b4217h := Int32.toInt_lt y4216
            exact g_iret hk hR rfl ⟨y4216, rfl, rfl⟩ dX2_outsideCost_120
        · skip
          refine g_aload_n hk dX2_outsideCost_95 rfl ?_
          refine g_iload_n hk dX2_outsideCost_96 rfl ?_
          refine g_iload hk dX2_outsideCost_97 rfl ?_
          refine g_callV (n := 2) hk (k235_X2_costOf l D zt q d I A z1 x4163 hIv) (SP.same _) (fun _ h => h) (gi_V (List.mem_cons_of_mem _ (List.mem_append_left _ (List.mem_of_getElem? (i := 9) rfl))) (List.mem_cons_of_mem _ (List.mem_append_left _ (List.mem_of_getElem? (i := 10) rfl))) (List.mem_cons_of_mem _ (List.mem_append_left _ (List.mem_of_getElem? (i := 11) rfl))) (List.mem_cons_of_mem _ (List.mem_append_left _ (List.mem_of_getElem? (i := 12) rfl))) (gi_sub (fun w h => (List.mem_cons_of_mem _ (List.mem_append_right _ (List.mem_append_right _ (List.mem_append_left _ h))))) zg_k235_X2_costOf)) rfl rfl rfl (by decide +kernel) ⟨Nat.le_of_ble_eq_true rfl, Nat.le_of_ble_eq_true rfl⟩ 38 rfl rfl rfl rfl (Nat.le_of_ble_eq_true rfl) ⟨Nat.le_of_ble_eq_true rfl, Nat.le_of_ble_eq_true rfl⟩ dX2_outsideCost_99 (fun v ty' w' hp hk' => ?_)
          obtain ⟨y4218, rfl, rfl⟩ := hp
          show GW κ 10 0 0 (wX q d I A) 102 [(8, .int x4162), (7, .int x4163), (6, .int x4164), (5, .int y4160), (4, .int y4154), (0, .ref (q 38)), (1, .int z1), (2, .ref (q 40)), (3, .int z3)] [.int y4218]
          have b4219l := Int32.le_toInt y4218
          have b4219h := Int32.toInt_lt y4218
          exact g_iret hk hR rfl ⟨y4218, rfl, rfl⟩ dX2_outsideCost_102
      · skip
        refine g_aload_n hk dX2_outsideCost_52 rfl ?_
        refine g_iload hk dX2_outsideCost_53 rfl ?_
        refine lX_22 (v := (A 22 x4162.toNatClampNeg)) hk (vp_in_iff.mpr ⟨by omega, by omega⟩) rfl dX2_outsideCost_55 ?_
        refine g_istore (lv' := [(9, .int (A 22 x4162.toNatClampNeg)), (8, .int x4162), (7, .int x4163), (6, .int x4164), (5, .int y4160), (4, .int y4154), (0, .ref (q 38)), (1, .int z1), (2, .ref (q 40)), (3, .int z3)]) hk dX2_outsideCost_56 (by decide) rfl ?_
        refine g_iload hk dX2_outsideCost_58 rfl ?_
        refine g_iload hk dX2_outsideCost_60 rfl ?_
        have b4220l := Int32.le_toInt (A 22 x4162.toNatClampNeg)
        have b4220h := Int32.toInt_lt (A 22 x4162.toNatClampNeg)
        have b4221l := Int32.le_toInt x4164
        have b4221h := Int32.toInt_lt x4164
        refine g_icmp_ge (tgt := 72) (a := (A 22 x4162.toNatClampNeg).toInt) (b := x4164.toInt) hk dX2_outsideCost_62 (by decide) rfl rfl (fun c4222 => ?_) (fun c4222 => ?_)
        · skip
          refine g_iload hk dX2_outsideCost_72 rfl ?_
          refine g_iload hk dX2_outsideCost_74 rfl ?_
          have b4223l := Int32.le_toInt x4163
          have b4223h := Int32.toInt_lt x4163
          refine g_icmp_le (tgt := 83) (a := (A 22 x4162.toNatClampNeg).toInt) (b := x4163.toInt) hk dX2_outsideCost_76 (by decide) rfl rfl (fun c4224 => ?_) (fun c4224 => ?_)
          · skip
            obtain ⟨y4225, ey4225⟩ : ∃ y : Int32, y = x4162 + Int32.ofInt 1 := ⟨_, rfl⟩
            have hy4225 : y4225.toInt = x4162.toInt + 1 := i32_add ey4225 rfl (by decide) (by omega) (by omega)
            refine g_iinc (v := y4225) (lv' := [(8, .int y4225), (9, .int (A 22 x4162.toNatClampNeg)), (7, .int x4163), (6, .int x4164), (5, .int y4160), (4, .int y4154), (0, .ref (q 38)), (1, .int z1), (2, .ref (q 40)), (3, .int z3)]) hk 1 dX2_outsideCost_83 rfl ey4225.symm (by decide) rfl ?_
            refine g_goto (tgt := 45) hk dX2_outsideCost_86 (by decide) ?_
            exact g_lv (List.forall_mem_cons.mpr ⟨List.mem_of_getElem? (i := 0) rfl, (List.forall_mem_cons.mpr ⟨List.mem_of_getElem? (i := 2) rfl, (List.forall_mem_cons.mpr ⟨List.mem_of_getElem? (i := 3) rfl, (List.forall_mem_cons.mpr ⟨List.mem_of_getElem? (i := 4) rfl, (List.forall_mem_cons.mpr ⟨List.mem_of_getElem? (i := 5) rfl, (List.forall_mem_cons.mpr ⟨List.mem_of_getElem? (i := 6) rfl, (List.forall_mem_cons.mpr ⟨List.mem_of_getElem? (i := 7) rfl, (List.forall_mem_cons.mpr ⟨List.mem_of_getElem? (i := 8) rfl, (List.forall_mem_cons.mpr ⟨List.mem_of_getElem? (i := 9) rfl, (fun _ h => absurd h List.not_mem_nil)⟩)⟩)⟩)⟩)⟩)⟩)⟩)⟩)⟩) (ih y4225 x4163 x4164 (by omega) (by omega) (by omega) (by omega))
          · skip
            refine g_iload hk dX2_outsideCost_79 rfl ?_
            refine g_istore (lv' := [(7, .int (A 22 x4162.toNatClampNeg)), (9, .int (A 22 x4162.toNatClampNeg)), (8, .int x4162), (6, .int x4164), (5, .int y4160), (4, .int y4154), (0, .ref (q 38)), (1, .int z1), (2, .ref (q 40)), (3, .int z3)]) hk dX2_outsideCost_81 (by decide) rfl ?_
            obtain ⟨y4226, ey4226⟩ : ∃ y : Int32, y = x4162 + Int32.ofInt 1 := ⟨_, rfl⟩
            have hy4226 : y4226.toInt = x4162.toInt + 1 := i32_add ey4226 rfl (by decide) (by omega) (by omega)
            refine g_iinc (v := y4226) (lv' := [(8, .int y4226), (7, .int (A 22 x4162.toNatClampNeg)), (9, .int (A 22 x4162.toNatClampNeg)), (6, .int x4164), (5, .int y4160), (4, .int y4154), (0, .ref (q 38)), (1, .int z1), (2, .ref (q 40)), (3, .int z3)]) hk 2 dX2_outsideCost_83 rfl ey4226.symm (by decide) rfl ?_
            refine g_goto (tgt := 45) hk dX2_outsideCost_86 (by decide) ?_
            exact g_lv (List.forall_mem_cons.mpr ⟨List.mem_of_getElem? (i := 0) rfl, (List.forall_mem_cons.mpr ⟨List.mem_of_getElem? (i := 1) rfl, (List.forall_mem_cons.mpr ⟨List.mem_of_getElem? (i := 3) rfl, (List.forall_mem_cons.mpr ⟨List.mem_of_getElem? (i := 4) rfl, (List.forall_mem_cons.mpr ⟨List.mem_of_getElem? (i := 5) rfl, (List.forall_mem_cons.mpr ⟨List.mem_of_getElem? (i := 6) rfl, (List.forall_mem_cons.mpr ⟨List.mem_of_getElem? (i := 7) rfl, (List.forall_mem_cons.mpr ⟨List.mem_of_getElem? (i := 8) rfl, (List.forall_mem_cons.mpr ⟨List.mem_of_getElem? (i := 9) rfl, (fun _ h => absurd h List.not_mem_nil)⟩)⟩)⟩)⟩)⟩)⟩)⟩)⟩)⟩) (ih y4226 (A 22 x4162.toNatClampNeg) x4164 (by omega) (by omega) (by omega) (by omega))
        · skip
          refine g_iload hk dX2_outsideCost_65 rfl ?_
          refine g_istore (lv' := [(6, .int (A 22 x4162.toNatClampNeg)), (9, .int (A 22 x4162.toNatClampNeg)), (8, .int x4162), (7, .int x4163), (5, .int y4160), (4, .int y4154), (0, .ref (q 38)), (1, .int z1), (2, .ref (q 40)), (3, .int z3)]) hk dX2_outsideCost_67 (by decide) rfl ?_
          refine g_goto (tgt := 83) hk dX2_outsideCost_69 (by decide) ?_
          obtain ⟨y4227, ey4227⟩ : ∃ y : Int32, y = x4162 + Int32.ofInt 1 := ⟨_, rfl⟩
          have hy4227 : y4227.toInt = x4162.toInt + 1 := i32_add ey4227 rfl (by decide) (by omega) (by omega)
          refine g_iinc (v := y4227) (lv' := [(8, .int y4227), (6, .int (A 22 x4162.toNatClampNeg)), (9, .int (A 22 x4162.toNatClampNeg)), (7, .int x4163), (5, .int y4160), (4, .int y4154), (0, .ref (q 38)), (1, .int z1), (2, .ref (q 40)), (3, .int z3)]) hk 2 dX2_outsideCost_83 rfl ey4227.symm (by decide) rfl ?_
          refine g_goto (tgt := 45) hk dX2_outsideCost_86 (by decide) ?_
          exact g_lv (List.forall_mem_cons.mpr ⟨List.mem_of_getElem? (i := 0) rfl, (List.forall_mem_cons.mpr ⟨List.mem_of_getElem? (i := 3) rfl, (List.forall_mem_cons.mpr ⟨List.mem_of_getElem? (i := 1) rfl, (List.forall_mem_cons.mpr ⟨List.mem_of_getElem? (i := 4) rfl, (List.forall_mem_cons.mpr ⟨List.mem_of_getElem? (i := 5) rfl, (List.forall_mem_cons.mpr ⟨List.mem_of_getElem? (i := 6) rfl, (List.forall_mem_cons.mpr ⟨List.mem_of_getElem? (i := 7) rfl, (List.forall_mem_cons.mpr ⟨List.mem_of_getElem? (i := 8) rfl, (List.forall_mem_cons.mpr ⟨List.mem_of_getElem? (i := 9) rfl, (fun _ h => absurd h List.not_mem_nil)⟩)⟩)⟩)⟩)⟩)⟩)⟩)⟩)⟩) (ih y4227 x4163 (A 22 x4162.toNatClampNeg) (by omega) (by omega) (by omega) (by omega))
  have b4229l := Int32.le_toInt (A 22 y4154.toNatClampNeg)
  have b4229h := Int32.toInt_lt (A 22 y4154.toNatClampNeg)
  obtain ⟨n4228, n4228a, n4228b⟩ : ∃ n : Nat, 16 - y4161.toInt < (n : Int) ∧ 0 < n := ⟨((16 - y4161.toInt : Int)).toNat + 1, by omega, by omega⟩
  exact lp4206 n4228 y4161 (A 22 y4154.toNatClampNeg) (A 22 y4154.toNatClampNeg) (by omega) (by omega) n4228a n4228b
def wo_k244_X2_envelopeBound : List Cond := [Cond.fieldLink RX2 24 "WarpDesk$Fit" "length" "I", Cond.methodLink RX2 72 yX2_outsideCost, Cond.instanceMethod yX2_outsideCost, Cond.selects RX2 yX2_outsideCost yX2_outsideCost, Cond.initialized RX2]
def wz_k244_X2_envelopeBound : List Cond := .code yX2_envelopeBound cX2_envelopeBound 5 (some .int) :: (wo_k244_X2_envelopeBound ++ (wsX20 ++ (wz_k245_X2_outsideCost ++ ([] : List Cond))))
theorem zg_k244_X2_envelopeBound : ∀ w ∈ wz_k244_X2_envelopeBound, goodWord w = true := zg_cons rfl (zg_app (by decide +kernel) (zg_app zgU_wsX20 (zg_app zg_k245_X2_outsideCost zg_nil)))
theorem zi_k244_X2_envelopeBound : ∀ w ∈ wz_k244_X2_envelopeBound, w ∈ lw_tbl := zi_cons zw_1032 (zi_app (zi_cons zw_343 (zi_cons zw_1033 (zi_cons zw_1035 (zi_cons zw_33 (zi_cons zw_112 zi_nil))))) (zi_app inX2 (zi_app zi_k245_X2_outsideCost zi_nil)))
set_option maxHeartbeats 4000000 in
set_option maxRecDepth 100000 in
theorem k244_X2_envelopeBound (l : Launch) (D : va_G) (zt : Nat × Nat × Nat × (Nat → Nat) × (Nat → Nat)) (q : Nat → Nat) (d : Nat → ClassId) (I : Nat → Int32) (A : Nat → Nat → Int32) (hIv : IvX I A) : GM l D zt (tyX d) yX2_envelopeBound wz_k244_X2_envelopeBound ({ frames := 2, cells := 0, slots := 0, locals := 52 } : Room) [.ref (q 38), .ref (q 39), .ref (q 40)] (wX q d I A) (fun v _ w' => ∃ y0 : Int32, v = some (.int y0) ∧ w' = wX q d I A) 0 0 := by
  refine GM.of (cc := cX2_envelopeBound) (maxL := 5) (ret := (some .int)) (own := RX2) (lv := [(0, .ref (q 38)), (1, .ref (q 39)), (2, .ref (q 40))]) (by decide) rfl rfl (Nat.le_of_ble_eq_true rfl) rfl (fun κ sz hk hR hN => ?_)
  have hin2 : ∀ w ∈ u_ws RX2 TX2 10, w ∈ wz_k244_X2_envelopeBound := fun w h => (List.mem_cons_of_mem _ (List.mem_append_right _ (List.mem_append_left _ h)))
  refine g_iconst (v := 0) hk dX2_envelopeBound_0 (by decide) ?_
  refine g_istore_n (lv' := [(3, .int 0), (0, .ref (q 38)), (1, .ref (q 39)), (2, .ref (q 40))]) hk dX2_envelopeBound_1 (by decide) rfl ?_
  refine g_iconst (v := 0) hk dX2_envelopeBound_2 (by decide) ?_
  refine g_istore (lv' := [(4, .int 0), (3, .int 0), (0, .ref (q 38)), (1, .ref (q 39)), (2, .ref (q 40))]) hk dX2_envelopeBound_3 (by decide) rfl ?_
  have lp4258 : ∀ (n4259 : Nat) (x4144 : Int32) (x4145 : Int32), (0 ≤ x4144.toInt) → (x4144.toInt ≤ 16) → (17 - x4144.toInt < (n4259 : Int)) → (0 < n4259) → GW κ 5 0 0 (wX q d I A) 5 [(4, .int x4144), (3, .int x4145), (0, .ref (q 38)), (1, .ref (q 39)), (2, .ref (q 40))] [] := by
    intro n4259
    induction n4259 with
    | zero =>
      intro x4144 x4145 h4256 h4257 m4260 m4260z
      exact absurd m4260z (Nat.lt_irrefl 0)
    | succ n4259 ih =>
      intro x4144 x4145 h4256 h4257 m4260 m4260z
      refine g_iload hk dX2_envelopeBound_5 rfl ?_
      refine g_aload_n hk dX2_envelopeBound_7 rfl ?_
      refine gX_i30 (v := (I 30)) hk hin2 (List.mem_cons_of_mem _ (List.mem_append_left _ (List.mem_of_getElem? (i := 0) rfl))) dX2_envelopeBound_8 rfl ?_
      have f4261 := IvX_f30 hIv
      refine g_icmp_ge (tgt := 41) (a := x4144.toInt) (b := (I 30).toInt) hk dX2_envelopeBound_11 (by decide) rfl rfl (fun c4262 => ?_) (fun c4262 => ?_)
      · skip
        refine g_iload_n hk dX2_envelopeBound_41 rfl ?_
        have b4263l := Int32.le_toInt x4145
        have b4263h := Int32.toInt_lt x4145
        exact g_iret hk hR rfl ⟨x4145, rfl, rfl⟩ dX2_envelopeBound_42
      · skip
        refine g_iload hk dX2_envelopeBound_14 rfl ?_
        refine g_aload_n hk dX2_envelopeBound_16 rfl ?_
        refine nX_21 hk dX2_envelopeBound_17 ?_
        refine g_icmp_ge (tgt := 41) (a := x4144.toInt) (b := 16) hk dX2_envelopeBound_18 (by decide) rfl rfl (fun z9 => absurd z9 (show ¬ (16 ≤ x4144.toInt) from by omega)) (fun _ => ?_)
        refine g_iload_n hk dX2_envelopeBound_21 rfl ?_
        refine g_aload_n hk dX2_envelopeBound_22 rfl ?_
        refine g_aload_n hk dX2_envelopeBound_23 rfl ?_
        refine g_iload hk dX2_envelopeBound_24 rfl ?_
        refine lX_21 (v := (A 21 x4144.toNatClampNeg)) hk (vp_in_iff.mpr ⟨by omega, by omega⟩) rfl dX2_envelopeBound_26 ?_
        refine g_aload_n hk dX2_envelopeBound_27 rfl ?_
        refine g_iload hk dX2_envelopeBound_28 rfl ?_
        refine g_callV (n := 3) hk (k245_X2_outsideCost l D zt q d I A (A 21 x4144.toNatClampNeg) x4144 hIv (by omega) (by omega)) (SP.same _) (fun _ h => h) (gi_V (List.mem_cons_of_mem _ (List.mem_append_left _ (List.mem_of_getElem? (i := 1) rfl))) (List.mem_cons_of_mem _ (List.mem_append_left _ (List.mem_of_getElem? (i := 2) rfl))) (List.mem_cons_of_mem _ (List.mem_append_left _ (List.mem_of_getElem? (i := 3) rfl))) (List.mem_cons_of_mem _ (List.mem_append_left _ (List.mem_of_getElem? (i := 4) rfl))) (gi_sub (fun w h => (List.mem_cons_of_mem _ (List.mem_append_right _ (List.mem_append_right _ (List.mem_append_left _ h))))) zg_k245_X2_outsideCost)) rfl rfl rfl (by decide +kernel) ⟨Nat.le_of_ble_eq_true rfl, Nat.le_of_ble_eq_true rfl⟩ 38 rfl rfl rfl rfl (Nat.le_of_ble_eq_true rfl) ⟨Nat.le_of_ble_eq_true rfl, Nat.le_of_ble_eq_true rfl⟩ dX2_envelopeBound_30 (fun v ty' w' hp hk' => ?_)
        obtain ⟨y4264, rfl, rfl⟩ := hp
        show GW κ 5 0 0 (wX q d I A) 33 [(4, .int x4144), (3, .int x4145), (0, .ref (q 38)), (1, .ref (q 39)), (2, .ref (q 40))] [.int y4264, .int x4145]
        have b4265l := Int32.le_toInt x4145
        have b4265h := Int32.toInt_lt x4145
        have b4266l := Int32.le_toInt y4264
        have b4266h := Int32.toInt_lt y4264
        refine g_iadd hk dX2_envelopeBound_33 ?_
        refine g_topi (fun y4267 ey4267 => ?_)
        refine g_istore_n (lv' := [(3, .int y4267), (4, .int x4144), (0, .ref (q 38)), (1, .ref (q 39)), (2, .ref (q 40))]) hk dX2_envelopeBound_34 (by decide) rfl ?_
        obtain ⟨y4268, ey4268⟩ : ∃ y : Int32, y = x4144 + Int32.ofInt 1 := ⟨_, rfl⟩
        have hy4268 : y4268.toInt = x4144.toInt + 1 := i32_add ey4268 rfl (by decide) (by omega) (by omega)
        refine g_iinc (v := y4268) (lv' := [(4, .int y4268), (3, .int y4267), (0, .ref (q 38)), (1, .ref (q 39)), (2, .ref (q 40))]) hk 1 dX2_envelopeBound_35 rfl ey4268.symm (by decide) rfl ?_
        refine g_goto (tgt := 5) hk dX2_envelopeBound_38 (by decide) ?_
        exact g_lv (List.forall_mem_cons.mpr ⟨List.mem_of_getElem? (i := 0) rfl, (List.forall_mem_cons.mpr ⟨List.mem_of_getElem? (i := 1) rfl, (List.forall_mem_cons.mpr ⟨List.mem_of_getElem? (i := 2) rfl, (List.forall_mem_cons.mpr ⟨List.mem_of_getElem? (i := 3) rfl, (List.forall_mem_cons.mpr ⟨List.mem_of_getElem? (i := 4) rfl, (fun _ h => absurd h List.not_mem_nil)⟩)⟩)⟩)⟩)⟩) (ih y4268 y4267 (by omega) (by omega) (by omega) (by omega))
  have k4270 : (0 : Int32).toInt = 0 := rfl
  obtain ⟨n4269, n4269a, n4269b⟩ : ∃ n : Nat, 17 - 0 < (n : Int) ∧ 0 < n := ⟨((17 - 0 : Int)).toNat + 1, by omega, by omega⟩
  exact lp4258 n4269 0 0 (by omega) (by omega) n4269a n4269b
def wo_k243_X2_backBound : List Cond := [Cond.fieldLink RX2 9 "WarpDesk$Fit" "left" "[I", Cond.fieldLink RX2 15 "WarpDesk$Fit" "right" "[I", Cond.methodLink RX2 68 yX2_envelopeBound, Cond.instanceMethod yX2_envelopeBound, Cond.selects RX2 yX2_envelopeBound yX2_envelopeBound, Cond.initialized RX2]
def wz_k243_X2_backBound : List Cond := .code yX2_backBound cX2_backBound 1 (some .int) :: (wo_k243_X2_backBound ++ (wsX20 ++ (wz_k244_X2_envelopeBound ++ ([] : List Cond))))
theorem zg_k243_X2_backBound : ∀ w ∈ wz_k243_X2_backBound, goodWord w = true := zg_cons rfl (zg_app (by decide +kernel) (zg_app zgU_wsX20 (zg_app zg_k244_X2_envelopeBound zg_nil)))
theorem zi_k243_X2_backBound : ∀ w ∈ wz_k243_X2_backBound, w ∈ lw_tbl := zi_cons zw_1040 (zi_app (zi_cons zw_334 (zi_cons zw_337 (zi_cons zw_1029 (zi_cons zw_1031 (zi_cons zw_32 (zi_cons zw_112 zi_nil)))))) (zi_app inX2 (zi_app zi_k244_X2_envelopeBound zi_nil)))
set_option maxHeartbeats 4000000 in
set_option maxRecDepth 100000 in
theorem k243_X2_backBound (l : Launch) (D : va_G) (zt : Nat × Nat × Nat × (Nat → Nat) × (Nat → Nat)) (q : Nat → Nat) (d : Nat → ClassId) (I : Nat → Int32) (A : Nat → Nat → Int32) (hIv : IvX I A) : GM l D zt (tyX d) yX2_backBound wz_k243_X2_backBound ({ frames := 3, cells := 0, slots := 0, locals := 76 } : Room) [.ref (q 38)] (wX q d I A) (fun v _ w' => ∃ y0 : Int32, v = some (.int y0) ∧ w' = wX q d I A) 0 0 := by
  refine GM.of (cc := cX2_backBound) (maxL := 1) (ret := (some .int)) (own := RX2) (lv := [(0, .ref (q 38))]) (by decide) rfl rfl (Nat.le_of_ble_eq_true rfl) rfl (fun κ sz hk hR hN => ?_)
  have hin2 : ∀ w ∈ u_ws RX2 TX2 10, w ∈ wz_k243_X2_backBound := fun w h => (List.mem_cons_of_mem _ (List.mem_append_right _ (List.mem_append_left _ h)))
  refine g_aload_n hk dX2_backBound_0 rfl ?_
  refine g_aload_n hk dX2_backBound_1 rfl ?_
  refine gX_r38_0 hk hin2 (List.mem_cons_of_mem _ (List.mem_append_left _ (List.mem_of_getElem? (i := 0) rfl))) dX2_backBound_2 ?_
  refine g_aload_n hk dX2_backBound_5 rfl ?_
  refine gX_r38_1 hk hin2 (List.mem_cons_of_mem _ (List.mem_append_left _ (List.mem_of_getElem? (i := 1) rfl))) dX2_backBound_6 ?_
  refine g_callV (n := 2) hk (k244_X2_envelopeBound l D zt q d I A  hIv) (SP.same _) (fun _ h => h) (gi_V (List.mem_cons_of_mem _ (List.mem_append_left _ (List.mem_of_getElem? (i := 2) rfl))) (List.mem_cons_of_mem _ (List.mem_append_left _ (List.mem_of_getElem? (i := 3) rfl))) (List.mem_cons_of_mem _ (List.mem_append_left _ (List.mem_of_getElem? (i := 4) rfl))) (List.mem_cons_of_mem _ (List.mem_append_left _ (List.mem_of_getElem? (i := 5) rfl))) (gi_sub (fun w h => (List.mem_cons_of_mem _ (List.mem_append_right _ (List.mem_append_right _ (List.mem_append_left _ h))))) zg_k244_X2_envelopeBound)) rfl rfl rfl (by decide +kernel) ⟨Nat.le_of_ble_eq_true rfl, Nat.le_of_ble_eq_true rfl⟩ 38 rfl rfl rfl rfl (Nat.le_of_ble_eq_true rfl) ⟨Nat.le_of_ble_eq_true rfl, Nat.le_of_ble_eq_true rfl⟩ dX2_backBound_9 (fun v ty' w' hp hk' => ?_)
  obtain ⟨y4271, rfl, rfl⟩ := hp
  show GW κ 1 0 0 (wX q d I A) 12 [(0, .ref (q 38))] [.int y4271]
  have b4272l := Int32.le_toInt y4271
  have b4272h := Int32.toInt_lt y4271
  exact g_iret hk hR rfl ⟨y4271, rfl, rfl⟩ dX2_backBound_12
def wo_k238_X11_bound : List Cond := [Cond.fieldLink RX11 65 "WarpDesk" "bench" "LWarpDesk$Bench;", Cond.methodLink RX11 212 yX0_openBoth, Cond.instanceMethod yX0_openBoth, Cond.selects RX0 yX0_openBoth yX0_openBoth, Cond.initialized RX0, Cond.fieldLink RX11 202 "WarpDesk$Bench" "fit" "LWarpDesk$Fit;", Cond.methodLink RX11 218 yX2_endsBound, Cond.instanceMethod yX2_endsBound, Cond.selects RX2 yX2_endsBound yX2_endsBound, Cond.initialized RX2, Cond.methodLink RX11 221 yX2_overBound, Cond.instanceMethod yX2_overBound, Cond.selects RX2 yX2_overBound yX2_overBound, Cond.methodLink RX11 224 yX2_backBound, Cond.instanceMethod yX2_backBound, Cond.selects RX2 yX2_backBound yX2_backBound]
def wz_k238_X11_bound : List Cond := .code yX11_bound cX11_bound 4 (some .int) :: (wo_k238_X11_bound ++ (wsX00 ++ (wsX110 ++ (wz_k222_X0_openBoth ++ (wz_k239_X2_endsBound ++ (wz_k240_X2_overBound ++ (wz_k243_X2_backBound ++ ([] : List Cond))))))))
theorem zg_k238_X11_bound : ∀ w ∈ wz_k238_X11_bound, goodWord w = true := zg_cons rfl (zg_app (by decide +kernel) (zg_app zgU_wsX00 (zg_app zgU_wsX110 (zg_app zg_k222_X0_openBoth (zg_app zg_k239_X2_endsBound (zg_app zg_k240_X2_overBound (zg_app zg_k243_X2_backBound zg_nil)))))))
theorem zi_k238_X11_bound : ∀ w ∈ wz_k238_X11_bound, w ∈ lw_tbl := zi_cons zw_1020 (zi_app (zi_cons zw_494 (zi_cons zw_969 (zi_cons zw_970 (zi_cons zw_971 (zi_cons zw_111 (zi_cons zw_383 (zi_cons zw_1021 (zi_cons zw_1022 (zi_cons zw_1023 (zi_cons zw_112 (zi_cons zw_1025 (zi_cons zw_1026 (zi_cons zw_1027 (zi_cons zw_1037 (zi_cons zw_1038 (zi_cons zw_1039 zi_nil)))))))))))))))) (zi_app inX0 (zi_app inX11 (zi_app zi_k222_X0_openBoth (zi_app zi_k239_X2_endsBound (zi_app zi_k240_X2_overBound (zi_app zi_k243_X2_backBound zi_nil)))))))
set_option maxHeartbeats 4000000 in
set_option maxRecDepth 100000 in
theorem k238_X11_bound (l : Launch) (D : va_G) (zt : Nat × Nat × Nat × (Nat → Nat) × (Nat → Nat)) (q : Nat → Nat) (d : Nat → ClassId) (I : Nat → Int32) (A : Nat → Nat → Int32) (z1 : Int32) (z2 : Int32) (z3 : Int32) (hIv : IvX I A) : GM l D zt (tyX d) yX11_bound wz_k238_X11_bound ({ frames := 6, cells := 0, slots := 0, locals := 131 } : Room) [.ref (q 0), .int z1, .int z2, .int z3] (wX q d I A) (fun v _ w' => ∃ (I' : Nat → Int32) (A' : Nat → Nat → Int32), Md [28, 30, 31, 32] I I' ∧ Md [21, 22] A A' ∧ IvX I' A' ∧ ∃ y0 : Int32, v = some (.int y0) ∧ w' = wX q d I' A') 0 0 := by
  refine GM.of (cc := cX11_bound) (maxL := 4) (ret := (some .int)) (own := RX11) (lv := [(0, .ref (q 0)), (1, .int z1), (2, .int z2), (3, .int z3)]) (by decide) rfl rfl (Nat.le_of_ble_eq_true rfl) rfl (fun κ sz hk hR hN => ?_)
  have hin0 : ∀ w ∈ u_ws RX0 TX0 5, w ∈ wz_k238_X11_bound := fun w h => (List.mem_cons_of_mem _ (List.mem_append_right _ (List.mem_append_left _ h)))
  have hin11 : ∀ w ∈ u_ws RX11 TX11 10, w ∈ wz_k238_X11_bound := fun w h => (List.mem_cons_of_mem _ (List.mem_append_right _ (List.mem_append_right _ (List.mem_append_left _ h))))
  refine g_aload_n hk dX11_bound_0 rfl ?_
  refine gX_r0_7 hk hin11 (List.mem_cons_of_mem _ (List.mem_append_left _ (List.mem_of_getElem? (i := 0) rfl))) dX11_bound_1 ?_
  refine g_iload_n hk dX11_bound_4 rfl ?_
  refine g_iload_n hk dX11_bound_5 rfl ?_
  refine g_callV (n := 2) hk (k222_X0_openBoth l D zt q d I A z1 z2 hIv) (SP.same _) (fun _ h => h) (gi_V (List.mem_cons_of_mem _ (List.mem_append_left _ (List.mem_of_getElem? (i := 1) rfl))) (List.mem_cons_of_mem _ (List.mem_append_left _ (List.mem_of_getElem? (i := 2) rfl))) (List.mem_cons_of_mem _ (List.mem_append_left _ (List.mem_of_getElem? (i := 3) rfl))) (List.mem_cons_of_mem _ (List.mem_append_left _ (List.mem_of_getElem? (i := 4) rfl))) (gi_sub (fun w h => (List.mem_cons_of_mem _ (List.mem_append_right _ (List.mem_append_right _ (List.mem_append_right _ (List.mem_append_left _ h)))))) zg_k222_X0_openBoth)) rfl rfl rfl (by decide +kernel) ⟨Nat.le_of_ble_eq_true rfl, Nat.le_of_ble_eq_true rfl⟩ 37 rfl rfl rfl rfl (Nat.le_of_ble_eq_true rfl) ⟨Nat.le_of_ble_eq_true rfl, Nat.le_of_ble_eq_true rfl⟩ dX11_bound_6 (fun v ty' w' hp hk' => ?_)
  obtain ⟨I3998, A3998, hI3998, hA3998, hV3998, y3995, c3996, c3997, rfl, rfl⟩ := hp
  show GW κ 4 0 0 (wX q d I3998 A3998) 9 [(0, .ref (q 0)), (1, .int z1), (2, .int z2), (3, .int z3)] [.int y3995]
  refine g_if_ne (tgt := 14) (a := y3995.toInt) hk dX11_bound_9 (by decide) rfl (fun c3999 => ?_) (fun c3999 => ?_)
  · skip
    refine g_iload_n hk dX11_bound_14 rfl ?_
    by_cases c4000 : z3.toInt = 0
    · refine g_tabIn (tgt := 40) (a := 0) hk dX11_bound_15 c4000 (by decide) (by decide) rfl (by decide) ?_
      refine g_aload_n hk dX11_bound_40 rfl ?_
      refine gX_r0_7 hk hin11 (List.mem_cons_of_mem _ (List.mem_append_left _ (List.mem_of_getElem? (i := 0) rfl))) dX11_bound_41 ?_
      refine gX_r37_3 hk hin0 (List.mem_cons_of_mem _ (List.mem_append_left _ (List.mem_of_getElem? (i := 5) rfl))) dX11_bound_44 ?_
      refine g_callV (n := 0) hk (k239_X2_endsBound l D zt q d I3998 A3998  hV3998) (SP.same _) (fun _ h => h) (gi_V (List.mem_cons_of_mem _ (List.mem_append_left _ (List.mem_of_getElem? (i := 6) rfl))) (List.mem_cons_of_mem _ (List.mem_append_left _ (List.mem_of_getElem? (i := 7) rfl))) (List.mem_cons_of_mem _ (List.mem_append_left _ (List.mem_of_getElem? (i := 8) rfl))) (List.mem_cons_of_mem _ (List.mem_append_left _ (List.mem_of_getElem? (i := 9) rfl))) (gi_sub (fun w h => (List.mem_cons_of_mem _ (List.mem_append_right _ (List.mem_append_right _ (List.mem_append_right _ (List.mem_append_right _ (List.mem_append_left _ h))))))) zg_k239_X2_endsBound)) rfl rfl rfl (by decide +kernel) ⟨Nat.le_of_ble_eq_true rfl, Nat.le_of_ble_eq_true rfl⟩ 38 rfl rfl rfl rfl (Nat.le_of_ble_eq_true rfl) ⟨Nat.le_of_ble_eq_true rfl, Nat.le_of_ble_eq_true rfl⟩ dX11_bound_47 (fun v ty' w' hp hk' => ?_)
      obtain ⟨y4009, rfl, rfl⟩ := hp
      show GW κ 4 0 0 (wX q d I3998 A3998) 50 [(0, .ref (q 0)), (1, .int z1), (2, .int z2), (3, .int z3)] [.int y4009]
      have b4010l := Int32.le_toInt y4009
      have b4010h := Int32.toInt_lt y4009
      exact g_iret hk hR rfl ⟨I3998, A3998, (show Md [28, 30, 31, 32] I I3998 from (Md.tr Md.rf hI3998 rfl)), (show Md [21, 22] A A3998 from (Md.tr Md.rf hA3998 rfl)), hV3998, y4009, rfl, rfl⟩ dX11_bound_50
    by_cases c4011 : z3.toInt = 1
    · refine g_tabIn (tgt := 51) (a := 1) hk dX11_bound_15 c4011 (by decide) (by decide) rfl (by decide) ?_
      refine g_aload_n hk dX11_bound_51 rfl ?_
      refine gX_r0_7 hk hin11 (List.mem_cons_of_mem _ (List.mem_append_left _ (List.mem_of_getElem? (i := 0) rfl))) dX11_bound_52 ?_
      refine gX_r37_3 hk hin0 (List.mem_cons_of_mem _ (List.mem_append_left _ (List.mem_of_getElem? (i := 5) rfl))) dX11_bound_55 ?_
      refine g_callV (n := 0) hk (k240_X2_overBound l D zt q d I3998 A3998  hV3998) (SP.same _) (fun _ h => h) (gi_V (List.mem_cons_of_mem _ (List.mem_append_left _ (List.mem_of_getElem? (i := 10) rfl))) (List.mem_cons_of_mem _ (List.mem_append_left _ (List.mem_of_getElem? (i := 11) rfl))) (List.mem_cons_of_mem _ (List.mem_append_left _ (List.mem_of_getElem? (i := 12) rfl))) (List.mem_cons_of_mem _ (List.mem_append_left _ (List.mem_of_getElem? (i := 9) rfl))) (gi_sub (fun w h => (List.mem_cons_of_mem _ (List.mem_append_right _ (List.mem_append_right _ (List.mem_append_right _ (List.mem_append_right _ (List.mem_append_right _ (List.mem_append_left _ h)))))))) zg_k240_X2_overBound)) rfl rfl rfl (by decide +kernel) ⟨Nat.le_of_ble_eq_true rfl, Nat.le_of_ble_eq_true rfl⟩ 38 rfl rfl rfl rfl (Nat.le_of_ble_eq_true rfl) ⟨Nat.le_of_ble_eq_true rfl, Nat.le_of_ble_eq_true rfl⟩ dX11_bound_58 (fun v ty' w' hp hk' => ?_)
      obtain ⟨y4141, rfl, rfl⟩ := hp
      show GW κ 4 0 0 (wX q d I3998 A3998) 61 [(0, .ref (q 0)), (1, .int z1), (2, .int z2), (3, .int z3)] [.int y4141]
      have b4142l := Int32.le_toInt y4141
      have b4142h := Int32.toInt_lt y4141
      exact g_iret hk hR rfl ⟨I3998, A3998, (show Md [28, 30, 31, 32] I I3998 from (Md.tr Md.rf hI3998 rfl)), (show Md [21, 22] A A3998 from (Md.tr Md.rf hA3998 rfl)), hV3998, y4141, rfl, rfl⟩ dX11_bound_61
    by_cases c4143 : z3.toInt = 2
    · refine g_tabIn (tgt := 62) (a := 2) hk dX11_bound_15 c4143 (by decide) (by decide) rfl (by decide) ?_
      refine g_aload_n hk dX11_bound_62 rfl ?_
      refine gX_r0_7 hk hin11 (List.mem_cons_of_mem _ (List.mem_append_left _ (List.mem_of_getElem? (i := 0) rfl))) dX11_bound_63 ?_
      refine gX_r37_3 hk hin0 (List.mem_cons_of_mem _ (List.mem_append_left _ (List.mem_of_getElem? (i := 5) rfl))) dX11_bound_66 ?_
      refine g_callV (n := 0) hk (k243_X2_backBound l D zt q d I3998 A3998  hV3998) (SP.same _) (fun _ h => h) (gi_V (List.mem_cons_of_mem _ (List.mem_append_left _ (List.mem_of_getElem? (i := 13) rfl))) (List.mem_cons_of_mem _ (List.mem_append_left _ (List.mem_of_getElem? (i := 14) rfl))) (List.mem_cons_of_mem _ (List.mem_append_left _ (List.mem_of_getElem? (i := 15) rfl))) (List.mem_cons_of_mem _ (List.mem_append_left _ (List.mem_of_getElem? (i := 9) rfl))) (gi_sub (fun w h => (List.mem_cons_of_mem _ (List.mem_append_right _ (List.mem_append_right _ (List.mem_append_right _ (List.mem_append_right _ (List.mem_append_right _ (List.mem_append_right _ (List.mem_append_left _ h))))))))) zg_k243_X2_backBound)) rfl rfl rfl (by decide +kernel) ⟨Nat.le_of_ble_eq_true rfl, Nat.le_of_ble_eq_true rfl⟩ 38 rfl rfl rfl rfl (Nat.le_of_ble_eq_true rfl) ⟨Nat.le_of_ble_eq_true rfl, Nat.le_of_ble_eq_true rfl⟩ dX11_bound_69 (fun v ty' w' hp hk' => ?_)
      obtain ⟨y4273, rfl, rfl⟩ := hp
      show GW κ 4 0 0 (wX q d I3998 A3998) 72 [(0, .ref (q 0)), (1, .int z1), (2, .int z2), (3, .int z3)] [.int y4273]
      have b4274l := Int32.le_toInt y4273
      have b4274h := Int32.toInt_lt y4273
      exact g_iret hk hR rfl ⟨I3998, A3998, (show Md [28, 30, 31, 32] I I3998 from (Md.tr Md.rf hI3998 rfl)), (show Md [21, 22] A A3998 from (Md.tr Md.rf hA3998 rfl)), hV3998, y4273, rfl, rfl⟩ dX11_bound_72
    refine g_tabOut (tgt := 73) (a := z3.toInt) hk dX11_bound_15 rfl (by omega) (by decide) ?_
    refine g_iconst (v := (-1)) hk dX11_bound_73 (by decide) ?_
    exact g_iret hk hR rfl ⟨I3998, A3998, (show Md [28, 30, 31, 32] I I3998 from (Md.tr Md.rf hI3998 rfl)), (show Md [21, 22] A A3998 from (Md.tr Md.rf hA3998 rfl)), hV3998, (-1), rfl, rfl⟩ dX11_bound_74
  · skip
    refine g_iconst (v := (-1)) hk dX11_bound_12 (by decide) ?_
    exact g_iret hk hR rfl ⟨I3998, A3998, (show Md [28, 30, 31, 32] I I3998 from (Md.tr Md.rf hI3998 rfl)), (show Md [21, 22] A A3998 from (Md.tr Md.rf hA3998 rfl)), hV3998, (-1), rfl, rfl⟩ dX11_bound_13
