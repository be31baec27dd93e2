def wo_k223_X0_hasBoth : List Cond := [Cond.fieldLink RX0 22 "WarpDesk$Bench" "queries" "LWarpDesk$Queries;", Cond.methodLink RX0 30 yX4_has, Cond.instanceMethod yX4_has, Cond.selects RX4 yX4_has yX4_has, Cond.initialized RX4, Cond.fieldLink RX0 18 "WarpDesk$Bench" "series" "LWarpDesk$Series;", Cond.methodLink RX0 36 yX4_lengthOf, Cond.instanceMethod yX4_lengthOf, Cond.selects RX4 yX4_lengthOf yX4_lengthOf, Cond.methodLink RX0 40 yX6_hasWindow, Cond.instanceMethod yX6_hasWindow, Cond.selects RX6 yX6_hasWindow yX6_hasWindow, Cond.initialized RX6]
def wz_k223_X0_hasBoth : List Cond := .code yX0_hasBoth cX0_hasBoth 3 (some .boolean) :: (wo_k223_X0_hasBoth ++ (wsX00 ++ (wz_k168_X4_has ++ (wz_k182_X4_lengthOf ++ (wz_k207_X6_hasWindow ++ ([] : List Cond))))))
theorem zg_k223_X0_hasBoth : ∀ w ∈ wz_k223_X0_hasBoth, goodWord w = true := zg_cons rfl (zg_app (by decide +kernel) (zg_app zgU_wsX00 (zg_app zg_k168_X4_has (zg_app zg_k182_X4_lengthOf (zg_app zg_k207_X6_hasWindow zg_nil)))))
theorem zi_k223_X0_hasBoth : ∀ w ∈ wz_k223_X0_hasBoth, w ∈ lw_tbl := zi_cons zw_976 (zi_app (zi_cons zw_376 (zi_cons zw_977 (zi_cons zw_747 (zi_cons zw_748 (zi_cons zw_108 (zi_cons zw_373 (zi_cons zw_978 (zi_cons zw_757 (zi_cons zw_758 (zi_cons zw_979 (zi_cons zw_902 (zi_cons zw_903 (zi_cons zw_109 zi_nil))))))))))))) (zi_app inX0 (zi_app zi_k168_X4_has (zi_app zi_k182_X4_lengthOf (zi_app zi_k207_X6_hasWindow zi_nil)))))
set_option maxHeartbeats 4000000 in
set_option maxRecDepth 100000 in
theorem k223_X0_hasBoth (l : Launch) (D : va_G) (zt : Nat × Nat × Nat × (Nat → Nat) × (Nat → Nat)) (q : Nat → Nat) (d : Nat → ClassId) (I : Nat → Int32) (A : Nat → Nat → Int32) (z1 : Int32) (z2 : Int32) (hIv : IvX I A) : GM l D zt (tyX d) yX0_hasBoth wz_k223_X0_hasBoth ({ frames := 3, cells := 0, slots := 0, locals := 65 } : Room) [.ref (q 37), .int z1, .int z2] (wX q d I A) (fun v _ w' => (v = some (.int 0) ∧ w' = wX q d I A) ∨ ((¬ (z1.toInt < 0)) ∧ (¬ (5 ≤ z1.toInt)) ∧ (0 ≤ z1.toInt) ∧ (z1.toInt ≤ 4) ∧ (0 ≤ z1.toInt) ∧ (z1.toInt ≤ 4) ∧ (0 ≤ z2.toInt) ∧ (z2.toInt ≤ 159) ∧ v = some (.int 1) ∧ w' = wX q d I A)) 0 0 := by
  refine GM.of (cc := cX0_hasBoth) (maxL := 3) (ret := (some .boolean)) (own := RX0) (lv := [(0, .ref (q 37)), (1, .int z1), (2, .int z2)]) (by decide) rfl rfl (Nat.le_of_ble_eq_true rfl) rfl (fun κ sz hk hR hN => ?_)
  have hin0 : ∀ w ∈ u_ws RX0 TX0 5, w ∈ wz_k223_X0_hasBoth := fun w h => (List.mem_cons_of_mem _ (List.mem_append_right _ (List.mem_append_left _ h)))
  refine g_aload_n hk dX0_hasBoth_0 rfl ?_
  refine gX_r37_1 hk hin0 (List.mem_cons_of_mem _ (List.mem_append_left _ (List.mem_of_getElem? (i := 0) rfl))) dX0_hasBoth_1 ?_
  refine g_iload_n hk dX0_hasBoth_4 rfl ?_
  refine g_callV (n := 1) hk (k168_X4_has l D zt q d I A z1 hIv) (SP.same _) (fun _ h => h) (gi_V (List.mem_cons_of_mem _ (List.mem_append_left _ (List.mem_of_getElem? (i := 1) rfl))) (List.mem_cons_of_mem _ (List.mem_append_left _ (List.mem_of_getElem? (i := 2) rfl))) (List.mem_cons_of_mem _ (List.mem_append_left _ (List.mem_of_getElem? (i := 3) rfl))) (List.mem_cons_of_mem _ (List.mem_append_left _ (List.mem_of_getElem? (i := 4) rfl))) (gi_sub (fun w h => (List.mem_cons_of_mem _ (List.mem_append_right _ (List.mem_append_right _ (List.mem_append_left _ h))))) zg_k168_X4_has)) rfl rfl rfl (by decide +kernel) ⟨Nat.le_of_ble_eq_true rfl, Nat.le_of_ble_eq_true rfl⟩ 15 rfl rfl rfl rfl (Nat.le_of_ble_eq_true rfl) ⟨Nat.le_of_ble_eq_true rfl, Nat.le_of_ble_eq_true rfl⟩ dX0_hasBoth_5 (fun v ty' w' hp hk' => ?_)
  rcases hp with ⟨rfl, rfl⟩ | ⟨c3061, c3062, c3063, c3064, rfl, rfl⟩
  · skip
    show GW κ 3 0 0 (wX q d I A) 8 [(0, .ref (q 37)), (1, .int z1), (2, .int z2)] [.int 0]
    refine g_if_eq (tgt := 34) (a := 0) hk dX0_hasBoth_8 (by decide) rfl (fun _ => ?_) (fun z9 => absurd (show (0 : Int) = (0 : Int) from by decide) z9)
    refine g_iconst (v := 0) hk dX0_hasBoth_34 (by decide) ?_
    exact g_iret hk hR rfl (Or.inl ⟨rfl, rfl⟩) dX0_hasBoth_35
  · skip
    show GW κ 3 0 0 (wX q d I A) 8 [(0, .ref (q 37)), (1, .int z1), (2, .int z2)] [.int 1]
    refine g_if_eq (tgt := 34) (a := 1) hk dX0_hasBoth_8 (by decide) rfl (fun z9 => absurd z9 (show ¬ ((1 : Int) = (0 : Int)) from by decide)) (fun _ => ?_)
    refine g_aload_n hk dX0_hasBoth_11 rfl ?_
    refine gX_r37_0 hk hin0 (List.mem_cons_of_mem _ (List.mem_append_left _ (List.mem_of_getElem? (i := 5) rfl))) dX0_hasBoth_12 ?_
    refine g_iload_n hk dX0_hasBoth_15 rfl ?_
    refine g_aload_n hk dX0_hasBoth_16 rfl ?_
    refine gX_r37_1 hk hin0 (List.mem_cons_of_mem _ (List.mem_append_left _ (List.mem_of_getElem? (i := 0) rfl))) dX0_hasBoth_17 ?_
    refine g_iload_n hk dX0_hasBoth_20 rfl ?_
    refine g_callV (n := 1) hk (k182_X4_lengthOf l D zt q d I A z1 hIv) (SP.same _) (fun _ h => h) (gi_V (List.mem_cons_of_mem _ (List.mem_append_left _ (List.mem_of_getElem? (i := 6) rfl))) (List.mem_cons_of_mem _ (List.mem_append_left _ (List.mem_of_getElem? (i := 7) rfl))) (List.mem_cons_of_mem _ (List.mem_append_left _ (List.mem_of_getElem? (i := 8) rfl))) (List.mem_cons_of_mem _ (List.mem_append_left _ (List.mem_of_getElem? (i := 4) rfl))) (gi_sub (fun w h => (List.mem_cons_of_mem _ (List.mem_append_right _ (List.mem_append_right _ (List.mem_append_right _ (List.mem_append_left _ h)))))) zg_k182_X4_lengthOf)) rfl rfl rfl (by decide +kernel) ⟨Nat.le_of_ble_eq_true rfl, Nat.le_of_ble_eq_true rfl⟩ 15 rfl rfl rfl rfl (Nat.le_of_ble_eq_true rfl) ⟨Nat.le_of_ble_eq_true rfl, Nat.le_of_ble_eq_true rfl⟩ dX0_hasBoth_21 (fun v ty' w' hp hk' => ?_)
    rcases hp with ⟨rfl, rfl⟩ | ⟨y3073, c3067, c3068, c3069, c3070, c3071, c3072, c3074, c3075, rfl, rfl⟩
    · skip
      show GW κ 3 0 0 (wX q d I A) 24 [(0, .ref (q 37)), (1, .int z1), (2, .int z2)] [.int 0, .int z2, .ref (q 13)]
      have k3076 : (0 : Int32).toInt = 0 := rfl
      refine g_callV (n := 2) hk (k207_X6_hasWindow l D zt q d I A z2 0 hIv) (SP.same _) (fun _ h => h) (gi_V (List.mem_cons_of_mem _ (List.mem_append_left _ (List.mem_of_getElem? (i := 9) rfl))) (List.mem_cons_of_mem _ (List.mem_append_left _ (List.mem_of_getElem? (i := 10) rfl))) (List.mem_cons_of_mem _ (List.mem_append_left _ (List.mem_of_getElem? (i := 11) rfl))) (List.mem_cons_of_mem _ (List.mem_append_left _ (List.mem_of_getElem? (i := 12) rfl))) (gi_sub (fun w h => (List.mem_cons_of_mem _ (List.mem_append_right _ (List.mem_append_right _ (List.mem_append_right _ (List.mem_append_right _ (List.mem_append_left _ h))))))) zg_k207_X6_hasWindow)) rfl rfl rfl (by decide +kernel) ⟨Nat.le_of_ble_eq_true rfl, Nat.le_of_ble_eq_true rfl⟩ 13 rfl rfl rfl rfl (Nat.le_of_ble_eq_true rfl) ⟨Nat.le_of_ble_eq_true rfl, Nat.le_of_ble_eq_true rfl⟩ dX0_hasBoth_24 (fun v ty' w' hp hk' => ?_)
      rcases hp with ⟨rfl, rfl⟩ | ⟨c3078, c3079, c3080, c3081, c3082, c3083, rfl, rfl⟩
      · skip
        show GW κ 3 0 0 (wX q d I A) 27 [(0, .ref (q 37)), (1, .int z1), (2, .int z2)] [.int 0]
        refine g_if_eq (tgt := 34) (a := 0) hk dX0_hasBoth_27 (by decide) rfl (fun _ => ?_) (fun z9 => absurd (show (0 : Int) = (0 : Int) from by decide) z9)
        refine g_iconst (v := 0) hk dX0_hasBoth_34 (by decide) ?_
        exact g_iret hk hR rfl (Or.inl ⟨rfl, rfl⟩) dX0_hasBoth_35
      · skip
        show GW κ 3 0 0 (wX q d I A) 27 [(0, .ref (q 37)), (1, .int z1), (2, .int z2)] [.int 1]
        refine g_if_eq (tgt := 34) (a := 1) hk dX0_hasBoth_27 (by decide) rfl (fun z9 => absurd z9 (show ¬ ((1 : Int) = (0 : Int)) from by decide)) (fun _ => ?_)
        refine g_iconst (v := 1) hk dX0_hasBoth_30 (by decide) ?_
        refine g_goto (tgt := 35) hk dX0_hasBoth_31 (by decide) ?_
        exact g_iret hk hR rfl (Or.inr (⟨c3061, c3062, c3063, c3064, (by omega), (by omega), (by omega), (by omega), rfl, rfl⟩)) dX0_hasBoth_35
    · skip
      show GW κ 3 0 0 (wX q d I A) 24 [(0, .ref (q 37)), (1, .int z1), (2, .int z2)] [.int y3073, .int z2, .ref (q 13)]
      refine g_callV (n := 2) hk (k207_X6_hasWindow l D zt q d I A z2 y3073 hIv) (SP.same _) (fun _ h => h) (gi_V (List.mem_cons_of_mem _ (List.mem_append_left _ (List.mem_of_getElem? (i := 9) rfl))) (List.mem_cons_of_mem _ (List.mem_append_left _ (List.mem_of_getElem? (i := 10) rfl))) (List.mem_cons_of_mem _ (List.mem_append_left _ (List.mem_of_getElem? (i := 11) rfl))) (List.mem_cons_of_mem _ (List.mem_append_left _ (List.mem_of_getElem? (i := 12) rfl))) (gi_sub (fun w h => (List.mem_cons_of_mem _ (List.mem_append_right _ (List.mem_append_right _ (List.mem_append_right _ (List.mem_append_right _ (List.mem_append_left _ h))))))) zg_k207_X6_hasWindow)) rfl rfl rfl (by decide +kernel) ⟨Nat.le_of_ble_eq_true rfl, Nat.le_of_ble_eq_true rfl⟩ 13 rfl rfl rfl rfl (Nat.le_of_ble_eq_true rfl) ⟨Nat.le_of_ble_eq_true rfl, Nat.le_of_ble_eq_true rfl⟩ dX0_hasBoth_24 (fun v ty' w' hp hk' => ?_)
      rcases hp with ⟨rfl, rfl⟩ | ⟨c3086, c3087, c3088, c3089, c3090, c3091, rfl, rfl⟩
      · skip
        show GW κ 3 0 0 (wX q d I A) 27 [(0, .ref (q 37)), (1, .int z1), (2, .int z2)] [.int 0]
        refine g_if_eq (tgt := 34) (a := 0) hk dX0_hasBoth_27 (by decide) rfl (fun _ => ?_) (fun z9 => absurd (show (0 : Int) = (0 : Int) from by decide) z9)
        refine g_iconst (v := 0) hk dX0_hasBoth_34 (by decide) ?_
        exact g_iret hk hR rfl (Or.inl ⟨rfl, rfl⟩) dX0_hasBoth_35
      · skip
        show GW κ 3 0 0 (wX q d I A) 27 [(0, .ref (q 37)), (1, .int z1), (2, .int z2)] [.int 1]
        refine g_if_eq (tgt := 34) (a := 1) hk dX0_hasBoth_27 (by decide) rfl (fun z9 => absurd z9 (show ¬ ((1 : Int) = (0 : Int)) from by decide)) (fun _ => ?_)
        refine g_iconst (v := 1) hk dX0_hasBoth_30 (by decide) ?_
        refine g_goto (tgt := 35) hk dX0_hasBoth_31 (by decide) ?_
        exact g_iret hk hR rfl (Or.inr (⟨c3061, c3062, c3063, c3064, (by omega), (by omega), (by omega), (by omega), rfl, rfl⟩)) dX0_hasBoth_35
def wo_k225_X4_copyQuery : List Cond := [Cond.methodLink RX4 26 yX4_lengthOf, Cond.instanceMethod yX4_lengthOf, Cond.selects RX4 yX4_lengthOf yX4_lengthOf, Cond.initialized RX4, Cond.methodLink RX4 33 yX4_valueAt, Cond.instanceMethod yX4_valueAt, Cond.selects RX4 yX4_valueAt yX4_valueAt]
def wz_k225_X4_copyQuery : List Cond := .code yX4_copyQuery cX4_copyQuery 4 none :: (wo_k225_X4_copyQuery ++ (wz_k182_X4_lengthOf ++ (wz_k181_X4_valueAt ++ ([] : List Cond))))
theorem zg_k225_X4_copyQuery : ∀ w ∈ wz_k225_X4_copyQuery, goodWord w = true := zg_cons rfl (zg_app (by decide +kernel) (zg_app zg_k182_X4_lengthOf (zg_app zg_k181_X4_valueAt zg_nil)))
theorem zi_k225_X4_copyQuery : ∀ w ∈ wz_k225_X4_copyQuery, w ∈ lw_tbl := zi_cons zw_987 (zi_app (zi_cons zw_756 (zi_cons zw_757 (zi_cons zw_758 (zi_cons zw_108 (zi_cons zw_760 (zi_cons zw_761 (zi_cons zw_762 zi_nil))))))) (zi_app zi_k182_X4_lengthOf (zi_app zi_k181_X4_valueAt zi_nil)))
set_option maxHeartbeats 4000000 in
set_option maxRecDepth 100000 in
theorem k225_X4_copyQuery (l : Launch) (D : va_G) (zt : Nat × Nat × Nat × (Nat → Nat) × (Nat → Nat)) (q : Nat → Nat) (d : Nat → ClassId) (I : Nat → Int32) (A : Nat → Nat → Int32) (z1 : Int32) (hIv : IvX I A) : GM l D zt (tyX d) yX4_copyQuery wz_k225_X4_copyQuery ({ frames := 3, cells := 0, slots := 0, locals := 64 } : Room) [.ref (q 15), .int z1, .ref (q 39)] (wX q d I A) (fun v _ w' => ∃ (I' : Nat → Int32) (A' : Nat → Nat → Int32), Md [] I I' ∧ Md [21] A A' ∧ IvX I' A' ∧ v = none ∧ w' = wX q d I' A') 0 0 := by
  refine GM.of (cc := cX4_copyQuery) (maxL := 4) (ret := none) (own := RX4) (lv := [(0, .ref (q 15)), (1, .int z1), (2, .ref (q 39))]) (by decide) rfl rfl (Nat.le_of_ble_eq_true rfl) rfl (fun κ sz hk hR hN => ?_)
  refine g_iconst (v := 0) hk dX4_copyQuery_0 (by decide) ?_
  refine g_istore_n (lv' := [(3, .int 0), (0, .ref (q 15)), (1, .int z1), (2, .ref (q 39))]) hk dX4_copyQuery_1 (by decide) rfl ?_
  have lp3179 : ∀ (n3180 : Nat) (x3118 : Int32) (I3122 : Nat → Int32) (A3122 : Nat → Nat → Int32), (Md [] I I3122) → (Md [21] A A3122) → (IvX I3122 A3122) → (0 ≤ x3118.toInt) → (x3118.toInt ≤ 16) → (17 - x3118.toInt < (n3180 : Int)) → (0 < n3180) → GW κ 4 0 0 (wX q d I3122 A3122) 2 [(3, .int x3118), (0, .ref (q 15)), (1, .int z1), (2, .ref (q 39))] [] := by
    intro n3180
    induction n3180 with
    | zero =>
      intro x3118 I3122 A3122 hI3122 hA3122 hV3122 h3177 h3178 m3181 m3181z
      exact absurd m3181z (Nat.lt_irrefl 0)
    | succ n3180 ih3182 =>
      intro x3118 I3122 A3122 hI3122 hA3122 hV3122 h3177 h3178 m3181 m3181z
      refine g_iload_n hk dX4_copyQuery_2 rfl ?_
      refine g_aload_n hk dX4_copyQuery_3 rfl ?_
      refine g_iload_n hk dX4_copyQuery_4 rfl ?_
      refine g_callV (n := 1) hk (k182_X4_lengthOf l D zt q d I3122 A3122 z1 hV3122) (SP.same _) (fun _ h => h) (gi_V (List.mem_cons_of_mem _ (List.mem_append_left _ (List.mem_of_getElem? (i := 0) rfl))) (List.mem_cons_of_mem _ (List.mem_append_left _ (List.mem_of_getElem? (i := 1) rfl))) (List.mem_cons_of_mem _ (List.mem_append_left _ (List.mem_of_getElem? (i := 2) rfl))) (List.mem_cons_of_mem _ (List.mem_append_left _ (List.mem_of_getElem? (i := 3) rfl))) (gi_sub (fun w h => (List.mem_cons_of_mem _ (List.mem_append_right _ (List.mem_append_left _ h)))) zg_k182_X4_lengthOf)) rfl rfl rfl (by decide +kernel) ⟨Nat.le_of_ble_eq_true rfl, Nat.le_of_ble_eq_true rfl⟩ 15 rfl rfl rfl rfl (Nat.le_of_ble_eq_true rfl) ⟨Nat.le_of_ble_eq_true rfl, Nat.le_of_ble_eq_true rfl⟩ dX4_copyQuery_5 (fun v ty' w' hp hk' => ?_)
      rcases hp with ⟨rfl, rfl⟩ | ⟨y3190, c3184, c3185, c3186, c3187, c3188, c3189, c3191, c3192, rfl, rfl⟩
      · skip
        show GW κ 4 0 0 (wX q d I3122 A3122) 8 [(3, .int x3118), (0, .ref (q 15)), (1, .int z1), (2, .ref (q 39))] [.int 0, .int x3118]
        refine g_icmp_ge (tgt := 32) (a := x3118.toInt) (b := 0) hk dX4_copyQuery_8 (by decide) rfl rfl (fun _ => ?_) (fun z9 => absurd (show 0 ≤ x3118.toInt from by omega) z9)
        exact g_vret hk hR ⟨I3122, A3122, (show Md [] I I3122 from (Md.tr Md.rf hI3122 rfl)), (show Md [21] A A3122 from (Md.tr Md.rf hA3122 rfl)), hV3122, rfl, rfl⟩ dX4_copyQuery_32
      · skip
        show GW κ 4 0 0 (wX q d I3122 A3122) 8 [(3, .int x3118), (0, .ref (q 15)), (1, .int z1), (2, .ref (q 39))] [.int y3190, .int x3118]
        refine g_icmp_ge (tgt := 32) (a := x3118.toInt) (b := y3190.toInt) hk dX4_copyQuery_8 (by decide) rfl rfl (fun c3193 => ?_) (fun c3193 => ?_)
        · skip
          exact g_vret hk hR ⟨I3122, A3122, (show Md [] I I3122 from (Md.tr Md.rf hI3122 rfl)), (show Md [21] A A3122 from (Md.tr Md.rf hA3122 rfl)), hV3122, rfl, rfl⟩ dX4_copyQuery_32
        · skip
          refine g_iload_n hk dX4_copyQuery_11 rfl ?_
          refine g_aload_n hk dX4_copyQuery_12 rfl ?_
          refine nX_21 hk dX4_copyQuery_13 ?_
          refine g_icmp_ge (tgt := 32) (a := x3118.toInt) (b := 16) hk dX4_copyQuery_14 (by decide) rfl rfl (fun z9 => absurd z9 (show ¬ (16 ≤ x3118.toInt) from by omega)) (fun _ => ?_)
          refine g_aload_n hk dX4_copyQuery_17 rfl ?_
          refine g_iload_n hk dX4_copyQuery_18 rfl ?_
          refine g_aload_n hk dX4_copyQuery_19 rfl ?_
          refine g_iload_n hk dX4_copyQuery_20 rfl ?_
          refine g_iload_n hk dX4_copyQuery_21 rfl ?_
          refine g_callV (n := 2) hk (k181_X4_valueAt l D zt q d I3122 A3122 z1 x3118 hV3122) (SP.same _) (fun _ h => h) (gi_V (List.mem_cons_of_mem _ (List.mem_append_left _ (List.mem_of_getElem? (i := 4) rfl))) (List.mem_cons_of_mem _ (List.mem_append_left _ (List.mem_of_getElem? (i := 5) rfl))) (List.mem_cons_of_mem _ (List.mem_append_left _ (List.mem_of_getElem? (i := 6) rfl))) (List.mem_cons_of_mem _ (List.mem_append_left _ (List.mem_of_getElem? (i := 3) rfl))) (gi_sub (fun w h => (List.mem_cons_of_mem _ (List.mem_append_right _ (List.mem_append_right _ (List.mem_append_left _ h))))) zg_k181_X4_valueAt)) rfl rfl rfl (by decide +kernel) ⟨Nat.le_of_ble_eq_true rfl, Nat.le_of_ble_eq_true rfl⟩ 15 rfl rfl rfl rfl (Nat.le_of_ble_eq_true rfl) ⟨Nat.le_of_ble_eq_true rfl, Nat.le_of_ble_eq_true rfl⟩ dX4_copyQuery_22 (fun v ty' w' hp hk' => ?_)
          obtain ⟨y3194, rfl, rfl⟩ := hp
          show GW κ 4 0 0 (wX q d I3122 A3122) 25 [(3, .int x3118), (0, .ref (q 15)), (1, .int z1), (2, .ref (q 39))] [.int y3194, .int x3118, .ref (q 39)]
          refine sX_21 (j := x3118.toNatClampNeg) hk (vp_in_iff.mpr ⟨by omega, by omega⟩) rfl dX4_copyQuery_25 ?_
          obtain ⟨y3195, ey3195⟩ : ∃ y : Int32, y = x3118 + Int32.ofInt 1 := ⟨_, rfl⟩
          have hy3195 : y3195.toInt = x3118.toInt + 1 := i32_add ey3195 rfl (by decide) (by omega) (by omega)
          refine g_iinc (v := y3195) (lv' := [(3, .int y3195), (0, .ref (q 15)), (1, .int z1), (2, .ref (q 39))]) hk 0 dX4_copyQuery_26 rfl ey3195.symm (by decide) rfl ?_
          refine g_goto (tgt := 2) hk dX4_copyQuery_29 (by decide) ?_
          exact g_lv (List.forall_mem_cons.mpr ⟨List.mem_of_getElem? (i := 0) rfl, (List.forall_mem_cons.mpr ⟨List.mem_of_getElem? (i := 1) rfl, (List.forall_mem_cons.mpr ⟨List.mem_of_getElem? (i := 2) rfl, (List.forall_mem_cons.mpr ⟨List.mem_of_getElem? (i := 3) rfl, (fun _ h => absurd h List.not_mem_nil)⟩)⟩)⟩)⟩) (ih3182 y3195 I3122 (up3 A3122 21 (x3118.toNatClampNeg) y3194) (show Md [] I I3122 from Md.tr hI3122 (show Md [] I3122 I3122 from Md.rf) rfl) (show Md [21] A (up3 A3122 21 (x3118.toNatClampNeg) y3194) from Md.tr hA3122 (show Md [21] A3122 (up3 A3122 21 (x3118.toNatClampNeg) y3194) from (Md.up3 Md.rf rfl)) rfl) ⟨(IvX_f0 (I := I3122) (A := A3122) hV3122), (IvX_f18 (I := I3122) (A := A3122) hV3122), (IvX_f30 (I := I3122) (A := A3122) hV3122), (IvX_f31 (I := I3122) (A := A3122) hV3122), (IvX_a4 (I := I3122) (A := A3122) hV3122), (IvX_a9 (I := I3122) (A := A3122) hV3122), trivial⟩ (by omega) (by omega) (by omega) (by omega))
  have k3197 : (0 : Int32).toInt = 0 := rfl
  obtain ⟨n3196, n3196a, n3196b⟩ : ∃ n : Nat, 17 - 0 < (n : Int) ∧ 0 < n := ⟨((17 - 0 : Int)).toNat + 1, by omega, by omega⟩
  exact lp3179 n3196 0 I A Md.rf Md.rf hIv (by omega) (by omega) n3196a n3196b
def wo_k224_X0_openQuery : List Cond := [Cond.fieldLink RX0 22 "WarpDesk$Bench" "queries" "LWarpDesk$Queries;", Cond.methodLink RX0 36 yX4_lengthOf, Cond.instanceMethod yX4_lengthOf, Cond.selects RX4 yX4_lengthOf yX4_lengthOf, Cond.initialized RX4, Cond.methodLink RX0 62 yX0_begin, Cond.instanceMethod yX0_begin, Cond.selects RX0 yX0_begin yX0_begin, Cond.initialized RX0, Cond.fieldLink RX0 12 "WarpDesk$Bench" "fit" "LWarpDesk$Fit;", Cond.fieldLink RX0 65 "WarpDesk$Fit" "left" "[I", Cond.methodLink RX0 69 yX4_copyQuery, Cond.instanceMethod yX4_copyQuery, Cond.selects RX4 yX4_copyQuery yX4_copyQuery, Cond.fieldLink RX0 26 "WarpDesk$Bench" "settings" "LWarpDesk$Settings;", Cond.methodLink RX0 49 yX7_valueOf, Cond.instanceMethod yX7_valueOf, Cond.selects RX7 yX7_valueOf yX7_valueOf, Cond.initialized RX7, Cond.methodLink RX0 73 yX2_bringToLevel, Cond.instanceMethod yX2_bringToLevel, Cond.selects RX2 yX2_bringToLevel yX2_bringToLevel, Cond.initialized RX2]
def wz_k224_X0_openQuery : List Cond := .code yX0_openQuery cX0_openQuery 3 none :: (wo_k224_X0_openQuery ++ (wsX00 ++ (wsX20 ++ (wz_k182_X4_lengthOf ++ (wz_k214_X0_begin ++ (wz_k225_X4_copyQuery ++ (wz_k194_X7_valueOf ++ (wz_k217_X2_bringToLevel ++ ([] : List Cond)))))))))
theorem zg_k224_X0_openQuery : ∀ w ∈ wz_k224_X0_openQuery, goodWord w = true := zg_cons rfl (zg_app (by decide +kernel) (zg_app zgU_wsX00 (zg_app zgU_wsX20 (zg_app zg_k182_X4_lengthOf (zg_app zg_k214_X0_begin (zg_app zg_k225_X4_copyQuery (zg_app zg_k194_X7_valueOf (zg_app zg_k217_X2_bringToLevel zg_nil))))))))
theorem zi_k224_X0_openQuery : ∀ w ∈ wz_k224_X0_openQuery, w ∈ lw_tbl := zi_cons zw_983 (zi_app (zi_cons zw_376 (zi_cons zw_978 (zi_cons zw_757 (zi_cons zw_758 (zi_cons zw_108 (zi_cons zw_934 (zi_cons zw_936 (zi_cons zw_24 (zi_cons zw_111 (zi_cons zw_380 (zi_cons zw_335 (zi_cons zw_984 (zi_cons zw_985 (zi_cons zw_986 (zi_cons zw_378 (zi_cons zw_933 (zi_cons zw_786 (zi_cons zw_787 (zi_cons zw_107 (zi_cons zw_948 (zi_cons zw_949 (zi_cons zw_950 (zi_cons zw_112 zi_nil))))))))))))))))))))))) (zi_app inX0 (zi_app inX2 (zi_app zi_k182_X4_lengthOf (zi_app zi_k214_X0_begin (zi_app zi_k225_X4_copyQuery (zi_app zi_k194_X7_valueOf (zi_app zi_k217_X2_bringToLevel zi_nil))))))))
set_option maxHeartbeats 4000000 in
set_option maxRecDepth 100000 in
theorem k224_X0_openQuery (l : Launch) (D : va_G) (zt : Nat × Nat × Nat × (Nat → Nat) × (Nat → Nat)) (q : Nat → Nat) (d : Nat → ClassId) (I : Nat → Int32) (A : Nat → Nat → Int32) (z1 : Int32) (z2 : Int32) (hIv : IvX I A) : GM l D zt (tyX d) yX0_openQuery wz_k224_X0_openQuery ({ frames := 4, cells := 0, slots := 0, locals := 87 } : Room) [.ref (q 37), .int z1, .int z2] (wX q d I A) (fun v _ w' => ∃ (I' : Nat → Int32) (A' : Nat → Nat → Int32), Md [28, 30, 31, 32] I I' ∧ Md [21] A A' ∧ IvX I' A' ∧ v = none ∧ w' = wX q d I' A') 0 0 := by
  refine GM.of (cc := cX0_openQuery) (maxL := 3) (ret := none) (own := RX0) (lv := [(0, .ref (q 37)), (1, .int z1), (2, .int z2)]) (by decide) rfl rfl (Nat.le_of_ble_eq_true rfl) rfl (fun κ sz hk hR hN => ?_)
  have hin0 : ∀ w ∈ u_ws RX0 TX0 5, w ∈ wz_k224_X0_openQuery := fun w h => (List.mem_cons_of_mem _ (List.mem_append_right _ (List.mem_append_left _ h)))
  have hin2 : ∀ w ∈ u_ws RX2 TX2 10, w ∈ wz_k224_X0_openQuery := fun w h => (List.mem_cons_of_mem _ (List.mem_append_right _ (List.mem_append_right _ (List.mem_append_left _ h))))
  refine g_aload_n hk dX0_openQuery_0 rfl ?_
  refine g_aload_n hk dX0_openQuery_1 rfl ?_
  refine gX_r37_1 hk hin0 (List.mem_cons_of_mem _ (List.mem_append_left _ (List.mem_of_getElem? (i := 0) rfl))) dX0_openQuery_2 ?_
  refine g_iload_n hk dX0_openQuery_5 rfl ?_
  refine g_callV (n := 1) hk (k182_X4_lengthOf l D zt q d I A z1 hIv) (SP.same _) (fun _ h => h) (gi_V (List.mem_cons_of_mem _ (List.mem_append_left _ (List.mem_of_getElem? (i := 1) rfl))) (List.mem_cons_of_mem _ (List.mem_append_left _ (List.mem_of_getElem? (i := 2) rfl))) (List.mem_cons_of_mem _ (List.mem_append_left _ (List.mem_of_getElem? (i := 3) rfl))) (List.mem_cons_of_mem _ (List.mem_append_left _ (List.mem_of_getElem? (i := 4) rfl))) (gi_sub (fun w h => (List.mem_cons_of_mem _ (List.mem_append_right _ (List.mem_append_right _ (List.mem_append_right _ (List.mem_append_left _ h)))))) zg_k182_X4_lengthOf)) rfl rfl rfl (by decide +kernel) ⟨Nat.le_of_ble_eq_true rfl, Nat.le_of_ble_eq_true rfl⟩ 15 rfl rfl rfl rfl (Nat.le_of_ble_eq_true rfl) ⟨Nat.le_of_ble_eq_true rfl, Nat.le_of_ble_eq_true rfl⟩ dX0_openQuery_6 (fun v ty' w' hp hk' => ?_)
  rcases hp with ⟨rfl, rfl⟩ | ⟨y3112, c3106, c3107, c3108, c3109, c3110, c3111, c3113, c3114, rfl, rfl⟩
  · skip
    show GW κ 3 0 0 (wX q d I A) 9 [(0, .ref (q 37)), (1, .int z1), (2, .int z2)] [.int 0, .ref (q 37)]
    refine g_iload_n hk dX0_openQuery_9 rfl ?_
    have k3115 : (0 : Int32).toInt = 0 := rfl
    refine g_callV (n := 2) hk (k214_X0_begin l D zt q d I A 0 z2 hIv) (SP.same _) (fun _ h => h) (gi_V (List.mem_cons_of_mem _ (List.mem_append_left _ (List.mem_of_getElem? (i := 5) rfl))) (List.mem_cons_of_mem _ (List.mem_append_left _ (List.mem_of_getElem? (i := 6) rfl))) (List.mem_cons_of_mem _ (List.mem_append_left _ (List.mem_of_getElem? (i := 7) rfl))) (List.mem_cons_of_mem _ (List.mem_append_left _ (List.mem_of_getElem? (i := 8) rfl))) (gi_sub (fun w h => (List.mem_cons_of_mem _ (List.mem_append_right _ (List.mem_append_right _ (List.mem_append_right _ (List.mem_append_right _ (List.mem_append_left _ h))))))) zg_k214_X0_begin)) rfl rfl rfl (by decide +kernel) ⟨Nat.le_of_ble_eq_true rfl, Nat.le_of_ble_eq_true rfl⟩ 37 rfl rfl rfl rfl (Nat.le_of_ble_eq_true rfl) ⟨Nat.le_of_ble_eq_true rfl, Nat.le_of_ble_eq_true rfl⟩ dX0_openQuery_10 (fun v ty' w' hp hk' => ?_)
    obtain ⟨I3117, A3117, hI3117, hA3117, hV3117, rfl, rfl⟩ := hp
    show GW κ 3 0 0 (wX q d I3117 A3117) 13 [(0, .ref (q 37)), (1, .int z1), (2, .int z2)] []
    refine g_aload_n hk dX0_openQuery_13 rfl ?_
    refine gX_r37_1 hk hin0 (List.mem_cons_of_mem _ (List.mem_append_left _ (List.mem_of_getElem? (i := 0) rfl))) dX0_openQuery_14 ?_
    refine g_iload_n hk dX0_openQuery_17 rfl ?_
    refine g_aload_n hk dX0_openQuery_18 rfl ?_
    refine gX_r37_3 hk hin0 (List.mem_cons_of_mem _ (List.mem_append_left _ (List.mem_of_getElem? (i := 9) rfl))) dX0_openQuery_19 ?_
    refine gX_r38_0 hk hin2 (List.mem_cons_of_mem _ (List.mem_append_left _ (List.mem_of_getElem? (i := 10) rfl))) dX0_openQuery_22 ?_
    refine g_callV (n := 2) hk (k225_X4_copyQuery l D zt q d I3117 A3117 z1 hV3117) (SP.same _) (fun _ h => h) (gi_V (List.mem_cons_of_mem _ (List.mem_append_left _ (List.mem_of_getElem? (i := 11) rfl))) (List.mem_cons_of_mem _ (List.mem_append_left _ (List.mem_of_getElem? (i := 12) rfl))) (List.mem_cons_of_mem _ (List.mem_append_left _ (List.mem_of_getElem? (i := 13) rfl))) (List.mem_cons_of_mem _ (List.mem_append_left _ (List.mem_of_getElem? (i := 4) rfl))) (gi_sub (fun w h => (List.mem_cons_of_mem _ (List.mem_append_right _ (List.mem_append_right _ (List.mem_append_right _ (List.mem_append_right _ (List.mem_append_right _ (List.mem_append_left _ h)))))))) zg_k225_X4_copyQuery)) rfl rfl rfl (by decide +kernel) ⟨Nat.le_of_ble_eq_true rfl, Nat.le_of_ble_eq_true rfl⟩ 15 rfl rfl rfl rfl (Nat.le_of_ble_eq_true rfl) ⟨Nat.le_of_ble_eq_true rfl, Nat.le_of_ble_eq_true rfl⟩ dX0_openQuery_25 (fun v ty' w' hp hk' => ?_)
    obtain ⟨I3199, A3199, hI3199, hA3199, hV3199, rfl, rfl⟩ := hp
    show GW κ 3 0 0 (wX q d I3199 A3199) 28 [(0, .ref (q 37)), (1, .int z1), (2, .int z2)] []
    refine g_aload_n hk dX0_openQuery_28 rfl ?_
    refine gX_r37_3 hk hin0 (List.mem_cons_of_mem _ (List.mem_append_left _ (List.mem_of_getElem? (i := 9) rfl))) dX0_openQuery_29 ?_
    refine g_aload_n hk dX0_openQuery_32 rfl ?_
    refine gX_r37_3 hk hin0 (List.mem_cons_of_mem _ (List.mem_append_left _ (List.mem_of_getElem? (i := 9) rfl))) dX0_openQuery_33 ?_
    refine gX_r38_0 hk hin2 (List.mem_cons_of_mem _ (List.mem_append_left _ (List.mem_of_getElem? (i := 10) rfl))) dX0_openQuery_36 ?_
    refine g_aload_n hk dX0_openQuery_39 rfl ?_
    refine gX_r37_2 hk hin0 (List.mem_cons_of_mem _ (List.mem_append_left _ (List.mem_of_getElem? (i := 14) rfl))) dX0_openQuery_40 ?_
    refine g_iconst (v := 1) hk dX0_openQuery_43 (by decide) ?_
    have k3200 : (1 : Int32).toInt = 1 := rfl
    refine g_callV (n := 1) hk (k194_X7_valueOf l D zt q d I3199 A3199 1 hV3199) (SP.same _) (fun _ h => h) (gi_V (List.mem_cons_of_mem _ (List.mem_append_left _ (List.mem_of_getElem? (i := 15) rfl))) (List.mem_cons_of_mem _ (List.mem_append_left _ (List.mem_of_getElem? (i := 16) rfl))) (List.mem_cons_of_mem _ (List.mem_append_left _ (List.mem_of_getElem? (i := 17) rfl))) (List.mem_cons_of_mem _ (List.mem_append_left _ (List.mem_of_getElem? (i := 18) rfl))) (gi_sub (fun w h => (List.mem_cons_of_mem _ (List.mem_append_right _ (List.mem_append_right _ (List.mem_append_right _ (List.mem_append_right _ (List.mem_append_right _ (List.mem_append_right _ (List.mem_append_left _ h))))))))) zg_k194_X7_valueOf)) rfl rfl rfl (by decide +kernel) ⟨Nat.le_of_ble_eq_true rfl, Nat.le_of_ble_eq_true rfl⟩ 18 rfl rfl rfl rfl (Nat.le_of_ble_eq_true rfl) ⟨Nat.le_of_ble_eq_true rfl, Nat.le_of_ble_eq_true rfl⟩ dX0_openQuery_44 (fun v ty' w' hp hk' => ?_)
    obtain ⟨y3201, rfl, rfl⟩ := hp
    show GW κ 3 0 0 (wX q d I3199 A3199) 47 [(0, .ref (q 37)), (1, .int z1), (2, .int z2)] [.int y3201, .ref (q 39), .ref (q 38)]
    refine g_callV (n := 2) hk (k217_X2_bringToLevel l D zt q d I3199 A3199 y3201 hV3199) (SP.same _) (fun _ h => h) (gi_V (List.mem_cons_of_mem _ (List.mem_append_left _ (List.mem_of_getElem? (i := 19) rfl))) (List.mem_cons_of_mem _ (List.mem_append_left _ (List.mem_of_getElem? (i := 20) rfl))) (List.mem_cons_of_mem _ (List.mem_append_left _ (List.mem_of_getElem? (i := 21) rfl))) (List.mem_cons_of_mem _ (List.mem_append_left _ (List.mem_of_getElem? (i := 22) rfl))) (gi_sub (fun w h => (List.mem_cons_of_mem _ (List.mem_append_right _ (List.mem_append_right _ (List.mem_append_right _ (List.mem_append_right _ (List.mem_append_right _ (List.mem_append_right _ (List.mem_append_right _ (List.mem_append_left _ h)))))))))) zg_k217_X2_bringToLevel)) rfl rfl rfl (by decide +kernel) ⟨Nat.le_of_ble_eq_true rfl, Nat.le_of_ble_eq_true rfl⟩ 38 rfl rfl rfl rfl (Nat.le_of_ble_eq_true rfl) ⟨Nat.le_of_ble_eq_true rfl, Nat.le_of_ble_eq_true rfl⟩ dX0_openQuery_47 (fun v ty' w' hp hk' => ?_)
    obtain ⟨I3203, A3203, hI3203, hA3203, hV3203, rfl, rfl⟩ := hp
    show GW κ 3 0 0 (wX q d I3203 A3203) 50 [(0, .ref (q 37)), (1, .int z1), (2, .int z2)] []
    exact g_vret hk hR ⟨I3203, A3203, (show Md [28, 30, 31, 32] I I3203 from (Md.tr (Md.tr (Md.tr Md.rf hI3117 rfl) hI3199 rfl) hI3203 rfl)), (show Md [21] A A3203 from (Md.tr (Md.tr (Md.tr Md.rf hA3117 rfl) hA3199 rfl) hA3203 rfl)), hV3203, rfl, rfl⟩ dX0_openQuery_50
  · skip
    show GW κ 3 0 0 (wX q d I A) 9 [(0, .ref (q 37)), (1, .int z1), (2, .int z2)] [.int y3112, .ref (q 37)]
    refine g_iload_n hk dX0_openQuery_9 rfl ?_
    refine g_callV (n := 2) hk (k214_X0_begin l D zt q d I A y3112 z2 hIv) (SP.same _) (fun _ h => h) (gi_V (List.mem_cons_of_mem _ (List.mem_append_left _ (List.mem_of_getElem? (i := 5) rfl))) (List.mem_cons_of_mem _ (List.mem_append_left _ (List.mem_of_getElem? (i := 6) rfl))) (List.mem_cons_of_mem _ (List.mem_append_left _ (List.mem_of_getElem? (i := 7) rfl))) (List.mem_cons_of_mem _ (List.mem_append_left _ (List.mem_of_getElem? (i := 8) rfl))) (gi_sub (fun w h => (List.mem_cons_of_mem _ (List.mem_append_right _ (List.mem_append_right _ (List.mem_append_right _ (List.mem_append_right _ (List.mem_append_left _ h))))))) zg_k214_X0_begin)) rfl rfl rfl (by decide +kernel) ⟨Nat.le_of_ble_eq_true rfl, Nat.le_of_ble_eq_true rfl⟩ 37 rfl rfl rfl rfl (Nat.le_of_ble_eq_true rfl) ⟨Nat.le_of_ble_eq_true rfl, Nat.le_of_ble_eq_true rfl⟩ dX0_openQuery_10 (fun v ty' w' hp hk' => ?_)
    obtain ⟨I3205, A3205, hI3205, hA3205, hV3205, rfl, rfl⟩ := hp
    show GW κ 3 0 0 (wX q d I3205 A3205) 13 [(0, .ref (q 37)), (1, .int z1), (2, .int z2)] []
    refine g_aload_n hk dX0_openQuery_13 rfl ?_
    refine gX_r37_1 hk hin0 (List.mem_cons_of_mem _ (List.mem_append_left _ (List.mem_of_getElem? (i := 0) rfl))) dX0_openQuery_14 ?_
    refine g_iload_n hk dX0_openQuery_17 rfl ?_
    refine g_aload_n hk dX0_openQuery_18 rfl ?_
    refine gX_r37_3 hk hin0 (List.mem_cons_of_mem _ (List.mem_append_left _ (List.mem_of_getElem? (i := 9) rfl))) dX0_openQuery_19 ?_
    refine gX_r38_0 hk hin2 (List.mem_cons_of_mem _ (List.mem_append_left _ (List.mem_of_getElem? (i := 10) rfl))) dX0_openQuery_22 ?_
    refine g_callV (n := 2) hk (k225_X4_copyQuery l D zt q d I3205 A3205 z1 hV3205) (SP.same _) (fun _ h => h) (gi_V (List.mem_cons_of_mem _ (List.mem_append_left _ (List.mem_of_getElem? (i := 11) rfl))) (List.mem_cons_of_mem _ (List.mem_append_left _ (List.mem_of_getElem? (i := 12) rfl))) (List.mem_cons_of_mem _ (List.mem_append_left _ (List.mem_of_getElem? (i := 13) rfl))) (List.mem_cons_of_mem _ (List.mem_append_left _ (List.mem_of_getElem? (i := 4) rfl))) (gi_sub (fun w h => (List.mem_cons_of_mem _ (List.mem_append_right _ (List.mem_append_right _ (List.mem_append_right _ (List.mem_append_right _ (List.mem_append_right _ (List.mem_append_left _ h)))))))) zg_k225_X4_copyQuery)) rfl rfl rfl (by decide +kernel) ⟨Nat.le_of_ble_eq_true rfl, Nat.le_of_ble_eq_true rfl⟩ 15 rfl rfl rfl rfl (Nat.le_of_ble_eq_true rfl) ⟨Nat.le_of_ble_eq_true rfl, Nat.le_of_ble_eq_true rfl⟩ dX0_openQuery_25 (fun v ty' w' hp hk' => ?_)
    obtain ⟨I3207, A3207, hI3207, hA3207, hV3207, rfl, rfl⟩ := hp
    show GW κ 3 0 0 (wX q d I3207 A3207) 28 [(0, .ref (q 37)), (1, .int z1), (2, .int z2)] []
    refine g_aload_n hk dX0_openQuery_28 rfl ?_
    refine gX_r37_3 hk hin0 (List.mem_cons_of_mem _ (List.mem_append_left _ (List.mem_of_getElem? (i := 9) rfl))) dX0_openQuery_29 ?_
    refine g_aload_n hk dX0_openQuery_32 rfl ?_
    refine gX_r37_3 hk hin0 (List.mem_cons_of_mem _ (List.mem_append_left _ (List.mem_of_getElem? (i := 9) rfl))) dX0_openQuery_33 ?_
    refine gX_r38_0 hk hin2 (List.mem_cons_of_mem _ (List.mem_append_left _ (List.mem_of_getElem? (i := 10) rfl))) dX0_openQuery_36 ?_
    refine g_aload_n hk dX0_openQuery_39 rfl ?_
    refine gX_r37_2 hk hin0 (List.mem_cons_of_mem _ (List.mem_append_left _ (List.mem_of_getElem? (i := 14) rfl))) dX0_openQuery_40 ?_
    refine g_iconst (v := 1) hk dX0_openQuery_43 (by decide) ?_
    have k3208 : (1 : Int32).toInt = 1 := rfl
    refine g_callV (n := 1) hk (k194_X7_valueOf l D zt q d I3207 A3207 1 hV3207) (SP.same _) (fun _ h => h) (gi_V (List.mem_cons_of_mem _ (List.mem_append_left _ (List.mem_of_getElem? (i := 15) rfl))) (List.mem_cons_of_mem _ (List.mem_append_left _ (List.mem_of_getElem? (i := 16) rfl))) (List.mem_cons_of_mem _ (List.mem_append_left _ (List.mem_of_getElem? (i := 17) rfl))) (List.mem_cons_of_mem _ (List.mem_append_left _ (List.mem_of_getElem? (i := 18) rfl))) (gi_sub (fun w h => (List.mem_cons_of_mem _ (List.mem_append_right _ (List.mem_append_right _ (List.mem_append_right _ (List.mem_append_right _ (List.mem_append_right _ (List.mem_append_right _ (List.mem_append_left _ h))))))))) zg_k194_X7_valueOf)) rfl rfl rfl (by decide +kernel) ⟨Nat.le_of_ble_eq_true rfl, Nat.le_of_ble_eq_true rfl⟩ 18 rfl rfl rfl rfl (Nat.le_of_ble_eq_true rfl) ⟨Nat.le_of_ble_eq_true rfl, Nat.le_of_ble_eq_true rfl⟩ dX0_openQuery_44 (fun v ty' w' hp hk' => ?_)
    obtain ⟨y3209, rfl, rfl⟩ := hp
    show GW κ 3 0 0 (wX q d I3207 A3207) 47 [(0, .ref (q 37)), (1, .int z1), (2, .int z2)] [.int y3209, .ref (q 39), .ref (q 38)]
    refine g_callV (n := 2) hk (k217_X2_bringToLevel l D zt q d I3207 A3207 y3209 hV3207) (SP.same _) (fun _ h => h) (gi_V (List.mem_cons_of_mem _ (List.mem_append_left _ (List.mem_of_getElem? (i := 19) rfl))) (List.mem_cons_of_mem _ (List.mem_append_left _ (List.mem_of_getElem? (i := 20) rfl))) (List.mem_cons_of_mem _ (List.mem_append_left _ (List.mem_of_getElem? (i := 21) rfl))) (List.mem_cons_of_mem _ (List.mem_append_left _ (List.mem_of_getElem? (i := 22) rfl))) (gi_sub (fun w h => (List.mem_cons_of_mem _ (List.mem_append_right _ (List.mem_append_right _ (List.mem_append_right _ (List.mem_append_right _ (List.mem_append_right _ (List.mem_append_right _ (List.mem_append_right _ (List.mem_append_left _ h)))))))))) zg_k217_X2_bringToLevel)) rfl rfl rfl (by decide +kernel) ⟨Nat.le_of_ble_eq_true rfl, Nat.le_of_ble_eq_true rfl⟩ 38 rfl rfl rfl rfl (Nat.le_of_ble_eq_true rfl) ⟨Nat.le_of_ble_eq_true rfl, Nat.le_of_ble_eq_true rfl⟩ dX0_openQuery_47 (fun v ty' w' hp hk' => ?_)
    obtain ⟨I3211, A3211, hI3211, hA3211, hV3211, rfl, rfl⟩ := hp
    show GW κ 3 0 0 (wX q d I3211 A3211) 50 [(0, .ref (q 37)), (1, .int z1), (2, .int z2)] []
    exact g_vret hk hR ⟨I3211, A3211, (show Md [28, 30, 31, 32] I I3211 from (Md.tr (Md.tr (Md.tr Md.rf hI3205 rfl) hI3207 rfl) hI3211 rfl)), (show Md [21] A A3211 from (Md.tr (Md.tr (Md.tr Md.rf hA3205 rfl) hA3207 rfl) hA3211 rfl)), hV3211, rfl, rfl⟩ dX0_openQuery_50
def wo_k227_X6_copyWindow : List Cond := [Cond.methodLink RX6 33 yX6_valueAt, Cond.instanceMethod yX6_valueAt, Cond.selects RX6 yX6_valueAt yX6_valueAt, Cond.initialized RX6]
def wz_k227_X6_copyWindow : List Cond := .code yX6_copyWindow cX6_copyWindow 5 none :: (wo_k227_X6_copyWindow ++ (wz_k179_X6_valueAt ++ ([] : List Cond)))
theorem zg_k227_X6_copyWindow : ∀ w ∈ wz_k227_X6_copyWindow, goodWord w = true := zg_cons rfl (zg_app (by decide +kernel) (zg_app zg_k179_X6_valueAt zg_nil))
theorem zi_k227_X6_copyWindow : ∀ w ∈ wz_k227_X6_copyWindow, w ∈ lw_tbl := zi_cons zw_947 (zi_app (zi_cons zw_843 (zi_cons zw_807 (zi_cons zw_808 (zi_cons zw_109 zi_nil)))) (zi_app zi_k179_X6_valueAt zi_nil))
set_option maxHeartbeats 4000000 in
set_option maxRecDepth 100000 in
theorem k227_X6_copyWindow (l : Launch) (D : va_G) (zt : Nat × Nat × Nat × (Nat → Nat) × (Nat → Nat)) (q : Nat → Nat) (d : Nat → ClassId) (I : Nat → Int32) (A : Nat → Nat → Int32) (z1 : Int32) (z2 : Int32) (hIv : IvX I A) : GM l D zt (tyX d) yX6_copyWindow wz_k227_X6_copyWindow ({ frames := 1, cells := 0, slots := 0, locals := 21 } : Room) [.ref (q 13), .int z1, .int z2, .ref (q 40)] (wX q d I A) (fun v _ w' => ∃ (I' : Nat → Int32) (A' : Nat → Nat → Int32), Md [] I I' ∧ Md [22] A A' ∧ IvX I' A' ∧ v = none ∧ w' = wX q d I' A') 0 0 := by
  refine GM.of (cc := cX6_copyWindow) (maxL := 5) (ret := none) (own := RX6) (lv := [(0, .ref (q 13)), (1, .int z1), (2, .int z2), (3, .ref (q 40))]) (by decide) rfl rfl (Nat.le_of_ble_eq_true rfl) rfl (fun κ sz hk hR hN => ?_)
  refine g_iconst (v := 0) hk dX6_copyWindow_0 (by decide) ?_
  refine g_istore (lv' := [(4, .int 0), (0, .ref (q 13)), (1, .int z1), (2, .int z2), (3, .ref (q 40))]) hk dX6_copyWindow_1 (by decide) rfl ?_
  have lp3248 : ∀ (n3249 : Nat) (x3214 : Int32) (I3219 : Nat → Int32) (A3219 : Nat → Nat → Int32), (Md [] I I3219) → (Md [22] A A3219) → (IvX I3219 A3219) → (0 ≤ x3214.toInt) → (x3214.toInt ≤ 16) → (z2.toInt + 1 - x3214.toInt < (n3249 : Int)) → (0 < n3249) → GW κ 5 0 0 (wX q d I3219 A3219) 3 [(4, .int x3214), (0, .ref (q 13)), (1, .int z1), (2, .int z2), (3, .ref (q 40))] [] := by
    intro n3249
    induction n3249 with
    | zero =>
      intro x3214 I3219 A3219 hI3219 hA3219 hV3219 h3246 h3247 m3250 m3250z
      exact absurd m3250z (Nat.lt_irrefl 0)
    | succ n3249 ih3251 =>
      intro x3214 I3219 A3219 hI3219 hA3219 hV3219 h3246 h3247 m3250 m3250z
      refine g_iload hk dX6_copyWindow_3 rfl ?_
      refine g_iload_n hk dX6_copyWindow_5 rfl ?_
      have b3252l := Int32.le_toInt z2
      have b3252h := Int32.toInt_lt z2
      refine g_icmp_ge (tgt := 34) (a := x3214.toInt) (b := z2.toInt) hk dX6_copyWindow_6 (by decide) rfl rfl (fun c3253 => ?_) (fun c3253 => ?_)
      · skip
        exact g_vret hk hR ⟨I3219, A3219, (show Md [] I I3219 from (Md.tr Md.rf hI3219 rfl)), (show Md [22] A A3219 from (Md.tr Md.rf hA3219 rfl)), hV3219, rfl, rfl⟩ dX6_copyWindow_34
      · skip
        refine g_iload hk dX6_copyWindow_9 rfl ?_
        refine g_aload_n hk dX6_copyWindow_11 rfl ?_
        refine nX_22 hk dX6_copyWindow_12 ?_
        refine g_icmp_ge (tgt := 34) (a := x3214.toInt) (b := 16) hk dX6_copyWindow_13 (by decide) rfl rfl (fun c3254 => ?_) (fun c3254 => ?_)
        · skip
          exact g_vret hk hR ⟨I3219, A3219, (show Md [] I I3219 from (Md.tr Md.rf hI3219 rfl)), (show Md [22] A A3219 from (Md.tr Md.rf hA3219 rfl)), hV3219, rfl, rfl⟩ dX6_copyWindow_34
        · skip
          refine g_aload_n hk dX6_copyWindow_16 rfl ?_
          refine g_iload hk dX6_copyWindow_17 rfl ?_
          refine g_aload_n hk dX6_copyWindow_19 rfl ?_
          refine g_iload_n hk dX6_copyWindow_20 rfl ?_
          refine g_iload hk dX6_copyWindow_21 rfl ?_
          have b3255l := Int32.le_toInt z1
          have b3255h := Int32.toInt_lt z1
          refine g_iadd hk dX6_copyWindow_23 ?_
          refine g_topi (fun y3256 ey3256 => ?_)
          refine g_callV (n := 1) hk (k179_X6_valueAt l D zt q d I3219 A3219 y3256 hV3219) (SP.same _) (fun _ h => h) (gi_V (List.mem_cons_of_mem _ (List.mem_append_left _ (List.mem_of_getElem? (i := 0) rfl))) (List.mem_cons_of_mem _ (List.mem_append_left _ (List.mem_of_getElem? (i := 1) rfl))) (List.mem_cons_of_mem _ (List.mem_append_left _ (List.mem_of_getElem? (i := 2) rfl))) (List.mem_cons_of_mem _ (List.mem_append_left _ (List.mem_of_getElem? (i := 3) rfl))) (gi_sub (fun w h => (List.mem_cons_of_mem _ (List.mem_append_right _ (List.mem_append_left _ h)))) zg_k179_X6_valueAt)) rfl rfl rfl (by decide +kernel) ⟨Nat.le_of_ble_eq_true rfl, Nat.le_of_ble_eq_true rfl⟩ 13 rfl rfl rfl rfl (Nat.le_of_ble_eq_true rfl) ⟨Nat.le_of_ble_eq_true rfl, Nat.le_of_ble_eq_true rfl⟩ dX6_copyWindow_24 (fun v ty' w' hp hk' => ?_)
          obtain ⟨y3257, rfl, rfl⟩ := hp
          show GW κ 5 0 0 (wX q d I3219 A3219) 27 [(4, .int x3214), (0, .ref (q 13)), (1, .int z1), (2, .int z2), (3, .ref (q 40))] [.int y3257, .int x3214, .ref (q 40)]
          refine sX_22 (j := x3214.toNatClampNeg) hk (vp_in_iff.mpr ⟨by omega, by omega⟩) rfl dX6_copyWindow_27 ?_
          obtain ⟨y3258, ey3258⟩ : ∃ y : Int32, y = x3214 + Int32.ofInt 1 := ⟨_, rfl⟩
          have hy3258 : y3258.toInt = x3214.toInt + 1 := i32_add ey3258 rfl (by decide) (by omega) (by omega)
          refine g_iinc (v := y3258) (lv' := [(4, .int y3258), (0, .ref (q 13)), (1, .int z1), (2, .int z2), (3, .ref (q 40))]) hk 0 dX6_copyWindow_28 rfl ey3258.symm (by decide) rfl ?_
          refine g_goto (tgt := 3) hk dX6_copyWindow_31 (by decide) ?_
          exact g_lv (List.forall_mem_cons.mpr ⟨List.mem_of_getElem? (i := 0) rfl, (List.forall_mem_cons.mpr ⟨List.mem_of_getElem? (i := 1) rfl, (List.forall_mem_cons.mpr ⟨List.mem_of_getElem? (i := 2) rfl, (List.forall_mem_cons.mpr ⟨List.mem_of_getElem? (i := 3) rfl, (List.forall_mem_cons.mpr ⟨List.mem_of_getElem? (i := 4) rfl, (fun _ h => absurd h List.not_mem_nil)⟩)⟩)⟩)⟩)⟩) (ih3251 y3258 I3219 (up3 A3219 22 (x3214.toNatClampNeg) y3257) (show Md [] I I3219 from Md.tr hI3219 (show Md [] I3219 I3219 from Md.rf) rfl) (show Md [22] A (up3 A3219 22 (x3214.toNatClampNeg) y3257) from Md.tr hA3219 (show Md [22] A3219 (up3 A3219 22 (x3214.toNatClampNeg) y3257) from (Md.up3 Md.rf rfl)) rfl) ⟨(IvX_f0 (I := I3219) (A := A3219) hV3219), (IvX_f18 (I := I3219) (A := A3219) hV3219), (IvX_f30 (I := I3219) (A := A3219) hV3219), (IvX_f31 (I := I3219) (A := A3219) hV3219), (IvX_a4 (I := I3219) (A := A3219) hV3219), (IvX_a9 (I := I3219) (A := A3219) hV3219), trivial⟩ (by omega) (by omega) (by omega) (by omega))
  have k3260 : (0 : Int32).toInt = 0 := rfl
  obtain ⟨n3259, n3259a, n3259b⟩ : ∃ n : Nat, z2.toInt + 1 - 0 < (n : Int) ∧ 0 < n := ⟨((z2.toInt + 1 - 0 : Int)).toNat + 1, by omega, by omega⟩
  exact lp3248 n3259 0 I A Md.rf Md.rf hIv (by omega) (by omega) n3259a n3259b
def wo_k229_X2_spreadAll : List Cond := [Cond.fieldLink RX2 24 "WarpDesk$Fit" "length" "I", Cond.methodLink RX2 28 Lib.Math.min.name, Cond.static Lib.Math.min.name, Cond.initialized "java/lang/Math", Cond.code Lib.Math.min.name Lib.Math.min.code 2 (some .int), Cond.methodLink RX2 34 Lib.Math.max.name, Cond.static Lib.Math.max.name, Cond.code Lib.Math.max.name Lib.Math.max.code 2 (some .int)]
def wz_k229_X2_spreadAll : List Cond := .code yX2_spreadAll cX2_spreadAll 6 none :: (wo_k229_X2_spreadAll ++ (wsX20 ++ ([] : List Cond)))
theorem zg_k229_X2_spreadAll : ∀ w ∈ wz_k229_X2_spreadAll, goodWord w = true := zg_cons rfl (zg_app (by decide +kernel) (zg_app zgU_wsX20 zg_nil))
theorem zi_k229_X2_spreadAll : ∀ w ∈ wz_k229_X2_spreadAll, w ∈ lw_tbl := zi_cons zw_964 (zi_app (zi_cons zw_343 (zi_cons zw_942 (zi_cons zw_829 (zi_cons zw_120 (zi_cons zw_830 (zi_cons zw_943 (zi_cons zw_920 (zi_cons zw_921 zi_nil)))))))) (zi_app inX2 zi_nil))
set_option maxHeartbeats 4000000 in
set_option maxRecDepth 100000 in
theorem k229_X2_spreadAll (l : Launch) (D : va_G) (zt : Nat × Nat × Nat × (Nat → Nat) × (Nat → Nat)) (q : Nat → Nat) (d : Nat → ClassId) (I : Nat → Int32) (A : Nat → Nat → Int32) (hIv : IvX I A) : GM l D zt (tyX d) yX2_spreadAll wz_k229_X2_spreadAll ({ frames := 1, cells := 0, slots := 0, locals := 13 } : Room) [.ref (q 38), .ref (q 40)] (wX q d I A) (fun v _ w' => ∃ (I' : Nat → Int32) (A' : Nat → Nat → Int32), Md [] I I' ∧ Md [22] A A' ∧ IvX I' A' ∧ v = none ∧ w' = wX q d I' A') 0 0 := by
  refine GM.of (cc := cX2_spreadAll) (maxL := 6) (ret := none) (own := RX2) (lv := [(0, .ref (q 38)), (1, .ref (q 40))]) (by decide) rfl rfl (Nat.le_of_ble_eq_true rfl) rfl (fun κ sz hk hR hN => ?_)
  have hin2 : ∀ w ∈ u_ws RX2 TX2 10, w ∈ wz_k229_X2_spreadAll := fun w h => (List.mem_cons_of_mem _ (List.mem_append_right _ (List.mem_append_left _ h)))
  refine g_aload_n hk dX2_spreadAll_0 rfl ?_
  refine g_iconst (v := 0) hk dX2_spreadAll_1 (by decide) ?_
  refine lX_22 (v := (A 22 0)) hk (vp_in_iff.mpr ⟨by decide, by decide⟩) rfl dX2_spreadAll_2 ?_
  refine g_istore_n (lv' := [(2, .int (A 22 0)), (0, .ref (q 38)), (1, .ref (q 40))]) hk dX2_spreadAll_3 (by decide) rfl ?_
  refine g_aload_n hk dX2_spreadAll_4 rfl ?_
  refine g_iconst (v := 0) hk dX2_spreadAll_5 (by decide) ?_
  refine lX_22 (v := (A 22 0)) hk (vp_in_iff.mpr ⟨by decide, by decide⟩) rfl dX2_spreadAll_6 ?_
  refine g_istore_n (lv' := [(3, .int (A 22 0)), (2, .int (A 22 0)), (0, .ref (q 38)), (1, .ref (q 40))]) hk dX2_spreadAll_7 (by decide) rfl ?_
  refine g_iconst (v := 1) hk dX2_spreadAll_8 (by decide) ?_
  refine g_istore (lv' := [(4, .int 1), (3, .int (A 22 0)), (2, .int (A 22 0)), (0, .ref (q 38)), (1, .ref (q 40))]) hk dX2_spreadAll_9 (by decide) rfl ?_
  have lp3568 : ∀ (n3569 : Nat) (x3270 : Int32) (x3271 : Int32) (x3272 : Int32), (1 ≤ x3270.toInt) → (x3270.toInt ≤ 16) → (17 - x3270.toInt < (n3569 : Int)) → (0 < n3569) → GW κ 6 0 0 (wX q d I A) 11 [(4, .int x3270), (3, .int x3271), (2, .int x3272), (0, .ref (q 38)), (1, .ref (q 40))] [] := by
    intro n3569
    induction n3569 with
    | zero =>
      intro x3270 x3271 x3272 h3566 h3567 m3570 m3570z
      exact absurd m3570z (Nat.lt_irrefl 0)
    | succ n3569 ih3571 =>
      intro x3270 x3271 x3272 h3566 h3567 m3570 m3570z
      refine g_iload hk dX2_spreadAll_11 rfl ?_
      refine g_aload_n hk dX2_spreadAll_13 rfl ?_
      refine gX_i30 (v := (I 30)) hk hin2 (List.mem_cons_of_mem _ (List.mem_append_left _ (List.mem_of_getElem? (i := 0) rfl))) dX2_spreadAll_14 rfl ?_
      have f3572 := IvX_f30 hIv
      refine g_icmp_ge (tgt := 44) (a := x3270.toInt) (b := (I 30).toInt) hk dX2_spreadAll_17 (by decide) rfl rfl (fun c3573 => ?_) (fun c3573 => ?_)
      · skip
        refine g_iload_n hk dX2_spreadAll_44 rfl ?_
        refine g_iload_n hk dX2_spreadAll_45 rfl ?_
        have b3574l := Int32.le_toInt x3271
        have b3574h := Int32.toInt_lt x3271
        have b3575l := Int32.le_toInt x3272
        have b3575h := Int32.toInt_lt x3272
        refine g_isub hk dX2_spreadAll_46 ?_
        refine g_topi (fun y3576 ey3576 => ?_)
        have hy3576 := i32_sub0 ey3576
        refine g_istore (lv' := [(4, .int y3576), (3, .int x3271), (2, .int x3272), (0, .ref (q 38)), (1, .ref (q 40))]) hk dX2_spreadAll_47 (by decide) rfl ?_
        refine g_iconst (v := 0) hk dX2_spreadAll_49 (by decide) ?_
        refine g_istore (lv' := [(5, .int 0), (4, .int y3576), (3, .int x3271), (2, .int x3272), (0, .ref (q 38)), (1, .ref (q 40))]) hk dX2_spreadAll_50 (by decide) rfl ?_
        have lp3628 : ∀ (n3629 : Nat) (x3577 : Int32) (I3583 : Nat → Int32) (A3583 : Nat → Nat → Int32), (Md [] I I3583) → (Md [22] A A3583) → (IvX I3583 A3583) → (0 ≤ x3577.toInt) → (x3577.toInt ≤ 16) → (17 - x3577.toInt < (n3629 : Int)) → (0 < n3629) → GW κ 6 0 0 (wX q d I3583 A3583) 52 [(5, .int x3577), (4, .int y3576), (3, .int x3271), (2, .int x3272), (0, .ref (q 38)), (1, .ref (q 40))] [] := by
          intro n3629
          induction n3629 with
          | zero =>
            intro x3577 I3583 A3583 hI3583 hA3583 hV3583 h3626 h3627 m3630 m3630z
            exact absurd m3630z (Nat.lt_irrefl 0)
          | succ n3629 ih3631 =>
            intro x3577 I3583 A3583 hI3583 hA3583 hV3583 h3626 h3627 m3630 m3630z
            refine g_iload hk dX2_spreadAll_52 rfl ?_
            refine g_aload_n hk dX2_spreadAll_54 rfl ?_
            refine gX_i30 (v := (I 30)) hk hin2 (List.mem_cons_of_mem _ (List.mem_append_left _ (List.mem_of_getElem? (i := 0) rfl))) dX2_spreadAll_55 (hI3583 30 rfl) ?_
            refine g_icmp_ge (tgt := 93) (a := x3577.toInt) (b := (I 30).toInt) hk dX2_spreadAll_58 (by decide) rfl rfl (fun c3632 => ?_) (fun c3632 => ?_)
            · skip
              exact g_vret hk hR ⟨I3583, A3583, (show Md [] I I3583 from (Md.tr Md.rf hI3583 rfl)), (show Md [22] A A3583 from (Md.tr Md.rf hA3583 rfl)), hV3583, rfl, rfl⟩ dX2_spreadAll_93
            · skip
              refine g_aload_n hk dX2_spreadAll_61 rfl ?_
              refine g_iload hk dX2_spreadAll_62 rfl ?_
              refine g_iload hk dX2_spreadAll_64 rfl ?_
              have b3633l := Int32.le_toInt y3576
              have b3633h := Int32.toInt_lt y3576
              refine g_if_ne (tgt := 73) (a := y3576.toInt) hk dX2_spreadAll_66 (by decide) rfl (fun c3634 => ?_) (fun c3634 => ?_)
              · skip
                refine g_sipush (v := 1000) hk dX2_spreadAll_73 (by decide) ?_
                refine g_aload_n hk dX2_spreadAll_76 rfl ?_
                refine g_iload hk dX2_spreadAll_77 rfl ?_
                refine lX_22 (v := (A3583 22 x3577.toNatClampNeg)) hk (vp_in_iff.mpr ⟨by omega, by omega⟩) rfl dX2_spreadAll_79 ?_
                refine g_iload_n hk dX2_spreadAll_80 rfl ?_
                have b3635l := Int32.le_toInt (A3583 22 x3577.toNatClampNeg)
                have b3635h := Int32.toInt_lt (A3583 22 x3577.toNatClampNeg)
                refine g_isub hk dX2_spreadAll_81 ?_
                refine g_topi (fun y3636 ey3636 => ?_)
                have hy3636 := i32_sub0 ey3636
                have b3637l := Int32.le_toInt y3636
                have b3637h := Int32.toInt_lt y3636
                refine g_imul hk dX2_spreadAll_82 ?_
                refine g_topi (fun y3638 ey3638 => ?_)
                refine g_iload hk dX2_spreadAll_83 rfl ?_
                refine g_idiv hk dX2_spreadAll_85 (i32_ne0 (by omega)) ?_
                refine g_topi (fun y3639 ey3639 => ?_)
                refine sX_22 (j := x3577.toNatClampNeg) hk (vp_in_iff.mpr ⟨by omega, by omega⟩) rfl dX2_spreadAll_86 ?_
                obtain ⟨y3640, ey3640⟩ : ∃ y : Int32, y = x3577 + Int32.ofInt 1 := ⟨_, rfl⟩
                have hy3640 : y3640.toInt = x3577.toInt + 1 := i32_add ey3640 rfl (by decide) (by omega) (by omega)
                refine g_iinc (v := y3640) (lv' := [(5, .int y3640), (4, .int y3576), (3, .int x3271), (2, .int x3272), (0, .ref (q 38)), (1, .ref (q 40))]) hk 0 dX2_spreadAll_87 rfl ey3640.symm (by decide) rfl ?_
                refine g_goto (tgt := 52) hk dX2_spreadAll_90 (by decide) ?_
                exact g_lv (List.forall_mem_cons.mpr ⟨List.mem_of_getElem? (i := 0) rfl, (List.forall_mem_cons.mpr ⟨List.mem_of_getElem? (i := 1) rfl, (List.forall_mem_cons.mpr ⟨List.mem_of_getElem? (i := 2) rfl, (List.forall_mem_cons.mpr ⟨List.mem_of_getElem? (i := 3) rfl, (List.forall_mem_cons.mpr ⟨List.mem_of_getElem? (i := 4) rfl, (List.forall_mem_cons.mpr ⟨List.mem_of_getElem? (i := 5) rfl, (fun _ h => absurd h List.not_mem_nil)⟩)⟩)⟩)⟩)⟩)⟩) (ih3631 y3640 I3583 (up3 A3583 22 (x3577.toNatClampNeg) y3639) (show Md [] I I3583 from Md.tr hI3583 (show Md [] I3583 I3583 from Md.rf) rfl) (show Md [22] A (up3 A3583 22 (x3577.toNatClampNeg) y3639) from Md.tr hA3583 (show Md [22] A3583 (up3 A3583 22 (x3577.toNatClampNeg) y3639) from (Md.up3 Md.rf rfl)) rfl) ⟨(IvX_f0 (I := I3583) (A := A3583) hV3583), (IvX_f18 (I := I3583) (A := A3583) hV3583), (IvX_f30 (I := I3583) (A := A3583) hV3583), (IvX_f31 (I := I3583) (A := A3583) hV3583), (IvX_a4 (I := I3583) (A := A3583) hV3583), (IvX_a9 (I := I3583) (A := A3583) hV3583), trivial⟩ (by omega) (by omega) (by omega) (by omega))
              · skip
                refine g_iconst (v := 0) hk dX2_spreadAll_69 (by decide) ?_
                refine g_goto (tgt := 86) hk dX2_spreadAll_70 (by decide) ?_
                have k3641 : (0 : Int32).toInt = 0 := rfl
                refine sX_22 (j := x3577.toNatClampNeg) hk (vp_in_iff.mpr ⟨by omega, by omega⟩) rfl dX2_spreadAll_86 ?_
                obtain ⟨y3642, ey3642⟩ : ∃ y : Int32, y = x3577 + Int32.ofInt 1 := ⟨_, rfl⟩
                have hy3642 : y3642.toInt = x3577.toInt + 1 := i32_add ey3642 rfl (by decide) (by omega) (by omega)
                refine g_iinc (v := y3642) (lv' := [(5, .int y3642), (4, .int y3576), (3, .int x3271), (2, .int x3272), (0, .ref (q 38)), (1, .ref (q 40))]) hk 0 dX2_spreadAll_87 rfl ey3642.symm (by decide) rfl ?_
                refine g_goto (tgt := 52) hk dX2_spreadAll_90 (by decide) ?_
                exact g_lv (List.forall_mem_cons.mpr ⟨List.mem_of_getElem? (i := 0) rfl, (List.forall_mem_cons.mpr ⟨List.mem_of_getElem? (i := 1) rfl, (List.forall_mem_cons.mpr ⟨List.mem_of_getElem? (i := 2) rfl, (List.forall_mem_cons.mpr ⟨List.mem_of_getElem? (i := 3) rfl, (List.forall_mem_cons.mpr ⟨List.mem_of_getElem? (i := 4) rfl, (List.forall_mem_cons.mpr ⟨List.mem_of_getElem? (i := 5) rfl, (fun _ h => absurd h List.not_mem_nil)⟩)⟩)⟩)⟩)⟩)⟩) (ih3631 y3642 I3583 (up3 A3583 22 (x3577.toNatClampNeg) 0) (show Md [] I I3583 from Md.tr hI3583 (show Md [] I3583 I3583 from Md.rf) rfl) (show Md [22] A (up3 A3583 22 (x3577.toNatClampNeg) 0) from Md.tr hA3583 (show Md [22] A3583 (up3 A3583 22 (x3577.toNatClampNeg) 0) from (Md.up3 Md.rf rfl)) rfl) ⟨(IvX_f0 (I := I3583) (A := A3583) hV3583), (IvX_f18 (I := I3583) (A := A3583) hV3583), (IvX_f30 (I := I3583) (A := A3583) hV3583), (IvX_f31 (I := I3583) (A := A3583) hV3583), (IvX_a4 (I := I3583) (A := A3583) hV3583), (IvX_a9 (I := I3583) (A := A3583) hV3583), trivial⟩ (by omega) (by omega) (by omega) (by omega))
        have k3644 : (0 : Int32).toInt = 0 := rfl
        obtain ⟨n3643, n3643a, n3643b⟩ : ∃ n : Nat, 17 - 0 < (n : Int) ∧ 0 < n := ⟨((17 - 0 : Int)).toNat + 1, by omega, by omega⟩
        exact lp3628 n3643 0 I A Md.rf Md.rf hIv (by omega) (by omega) n3643a n3643b
      · skip
        refine g_iload_n hk dX2_spreadAll_20 rfl ?_
        refine g_aload_n hk dX2_spreadAll_21 rfl ?_
        refine g_iload hk dX2_spreadAll_22 rfl ?_
        refine lX_22 (v := (A 22 x3270.toNatClampNeg)) hk (vp_in_iff.mpr ⟨by omega, by omega⟩) rfl dX2_spreadAll_24 ?_
        have b3645l := Int32.le_toInt (A 22 x3270.toNatClampNeg)
        have b3645h := Int32.toInt_lt (A 22 x3270.toNatClampNeg)
        have b3646l := Int32.le_toInt x3272
        have b3646h := Int32.toInt_lt x3272
        refine g_mmin hk (List.mem_cons_of_mem _ (List.mem_append_left _ (List.mem_of_getElem? (i := 1) rfl))) (List.mem_cons_of_mem _ (List.mem_append_left _ (List.mem_of_getElem? (i := 2) rfl))) (List.mem_cons_of_mem _ (List.mem_append_left _ (List.mem_of_getElem? (i := 3) rfl))) (List.mem_cons_of_mem _ (List.mem_append_left _ (List.mem_of_getElem? (i := 4) rfl))) (Nat.le_of_ble_eq_true rfl) (Nat.le_of_ble_eq_true rfl) (Nat.le_of_ble_eq_true rfl) (Nat.le_of_ble_eq_true rfl) dX2_spreadAll_25 ?_
        refine g_topi (fun y3647 ey3647 => ?_)
        have hy3647 := i32_min ey3647
        refine g_istore_n (lv' := [(2, .int y3647), (4, .int x3270), (3, .int x3271), (0, .ref (q 38)), (1, .ref (q 40))]) hk dX2_spreadAll_28 (by decide) rfl ?_
        refine g_iload_n hk dX2_spreadAll_29 rfl ?_
        refine g_aload_n hk dX2_spreadAll_30 rfl ?_
        refine g_iload hk dX2_spreadAll_31 rfl ?_
        refine lX_22 (v := (A 22 x3270.toNatClampNeg)) hk (vp_in_iff.mpr ⟨by omega, by omega⟩) rfl dX2_spreadAll_33 ?_
        have b3648l := Int32.le_toInt x3271
        have b3648h := Int32.toInt_lt x3271
        refine g_mmax hk (List.mem_cons_of_mem _ (List.mem_append_left _ (List.mem_of_getElem? (i := 5) rfl))) (List.mem_cons_of_mem _ (List.mem_append_left _ (List.mem_of_getElem? (i := 6) rfl))) (List.mem_cons_of_mem _ (List.mem_append_left _ (List.mem_of_getElem? (i := 3) rfl))) (List.mem_cons_of_mem _ (List.mem_append_left _ (List.mem_of_getElem? (i := 7) rfl))) (Nat.le_of_ble_eq_true rfl) (Nat.le_of_ble_eq_true rfl) (Nat.le_of_ble_eq_true rfl) (Nat.le_of_ble_eq_true rfl) dX2_spreadAll_34 ?_
        refine g_topi (fun y3649 ey3649 => ?_)
        have hy3649 := i32_max ey3649
        refine g_istore_n (lv' := [(3, .int y3649), (2, .int y3647), (4, .int x3270), (0, .ref (q 38)), (1, .ref (q 40))]) hk dX2_spreadAll_37 (by decide) rfl ?_
        obtain ⟨y3650, ey3650⟩ : ∃ y : Int32, y = x3270 + Int32.ofInt 1 := ⟨_, rfl⟩
        have hy3650 : y3650.toInt = x3270.toInt + 1 := i32_add ey3650 rfl (by decide) (by omega) (by omega)
        refine g_iinc (v := y3650) (lv' := [(4, .int y3650), (3, .int y3649), (2, .int y3647), (0, .ref (q 38)), (1, .ref (q 40))]) hk 2 dX2_spreadAll_38 rfl ey3650.symm (by decide) rfl ?_
        refine g_goto (tgt := 11) hk dX2_spreadAll_41 (by decide) ?_
        exact g_lv (List.forall_mem_cons.mpr ⟨List.mem_of_getElem? (i := 0) rfl, (List.forall_mem_cons.mpr ⟨List.mem_of_getElem? (i := 1) rfl, (List.forall_mem_cons.mpr ⟨List.mem_of_getElem? (i := 2) rfl, (List.forall_mem_cons.mpr ⟨List.mem_of_getElem? (i := 3) rfl, (List.forall_mem_cons.mpr ⟨List.mem_of_getElem? (i := 4) rfl, (fun _ h => absurd h List.not_mem_nil)⟩)⟩)⟩)⟩)⟩) (ih3571 y3650 y3649 y3647 (by omega) (by omega) (by omega) (by omega))
  have k3652 : (1 : Int32).toInt = 1 := rfl
  have b3653l := Int32.le_toInt (A 22 0)
  have b3653h := Int32.toInt_lt (A 22 0)
  obtain ⟨n3651, n3651a, n3651b⟩ : ∃ n : Nat, 17 - 1 < (n : Int) ∧ 0 < n := ⟨((17 - 1 : Int)).toNat + 1, by omega, by omega⟩
  exact lp3568 n3651 1 (A 22 0) (A 22 0) (by omega) (by omega) n3651a n3651b
def wo_k230_X2_lessenAll : List Cond := [Cond.fieldLink RX2 24 "WarpDesk$Fit" "length" "I"]
def wz_k230_X2_lessenAll : List Cond := .code yX2_lessenAll cX2_lessenAll 4 none :: (wo_k230_X2_lessenAll ++ (wsX20 ++ ([] : List Cond)))
theorem zg_k230_X2_lessenAll : ∀ w ∈ wz_k230_X2_lessenAll, goodWord w = true := zg_cons rfl (zg_app (by decide +kernel) (zg_app zgU_wsX20 zg_nil))
theorem zi_k230_X2_lessenAll : ∀ w ∈ wz_k230_X2_lessenAll, w ∈ lw_tbl := zi_cons zw_960 (zi_app (zi_cons zw_343 zi_nil) (zi_app inX2 zi_nil))
set_option maxHeartbeats 4000000 in
set_option maxRecDepth 100000 in
theorem k230_X2_lessenAll (l : Launch) (D : va_G) (zt : Nat × Nat × Nat × (Nat → Nat) × (Nat → Nat)) (q : Nat → Nat) (d : Nat → ClassId) (I : Nat → Int32) (A : Nat → Nat → Int32) (z2 : Int32) (hIv : IvX I A) : GM l D zt (tyX d) yX2_lessenAll wz_k230_X2_lessenAll ({ frames := 0, cells := 0, slots := 0, locals := 0 } : Room) [.ref (q 38), .ref (q 40), .int z2] (wX q d I A) (fun v _ w' => ∃ (I' : Nat → Int32) (A' : Nat → Nat → Int32), Md [] I I' ∧ Md [22] A A' ∧ IvX I' A' ∧ v = none ∧ w' = wX q d I' A') 0 0 := by
  refine GM.of (cc := cX2_lessenAll) (maxL := 4) (ret := none) (own := RX2) (lv := [(0, .ref (q 38)), (1, .ref (q 40)), (2, .int z2)]) (by decide) rfl rfl (Nat.le_of_ble_eq_true rfl) rfl (fun κ sz hk hR hN => ?_)
  have hin2 : ∀ w ∈ u_ws RX2 TX2 10, w ∈ wz_k230_X2_lessenAll := fun w h => (List.mem_cons_of_mem _ (List.mem_append_right _ (List.mem_append_left _ h)))
  refine g_iconst (v := 0) hk dX2_lessenAll_0 (by decide) ?_
  refine g_istore_n (lv' := [(3, .int 0), (0, .ref (q 38)), (1, .ref (q 40)), (2, .int z2)]) hk dX2_lessenAll_1 (by decide) rfl ?_
  have lp3686 : ∀ (n3687 : Nat) (x3656 : Int32) (I3660 : Nat → Int32) (A3660 : Nat → Nat → Int32), (Md [] I I3660) → (Md [22] A A3660) → (IvX I3660 A3660) → (0 ≤ x3656.toInt) → (x3656.toInt ≤ 16) → (17 - x3656.toInt < (n3687 : Int)) → (0 < n3687) → GW κ 4 0 0 (wX q d I3660 A3660) 2 [(3, .int x3656), (0, .ref (q 38)), (1, .ref (q 40)), (2, .int z2)] [] := by
    intro n3687
    induction n3687 with
    | zero =>
      intro x3656 I3660 A3660 hI3660 hA3660 hV3660 h3684 h3685 m3688 m3688z
      exact absurd m3688z (Nat.lt_irrefl 0)
    | succ n3687 ih3689 =>
      intro x3656 I3660 A3660 hI3660 hA3660 hV3660 h3684 h3685 m3688 m3688z
      refine g_iload_n hk dX2_lessenAll_2 rfl ?_
      refine g_aload_n hk dX2_lessenAll_3 rfl ?_
      refine gX_i30 (v := (I 30)) hk hin2 (List.mem_cons_of_mem _ (List.mem_append_left _ (List.mem_of_getElem? (i := 0) rfl))) dX2_lessenAll_4 (hI3660 30 rfl) ?_
      have f3690 := IvX_f30 hIv
      refine g_icmp_ge (tgt := 29) (a := x3656.toInt) (b := (I 30).toInt) hk dX2_lessenAll_7 (by decide) rfl rfl (fun c3691 => ?_) (fun c3691 => ?_)
      · skip
        exact g_vret hk hR ⟨I3660, A3660, (show Md [] I I3660 from (Md.tr Md.rf hI3660 rfl)), (show Md [22] A A3660 from (Md.tr Md.rf hA3660 rfl)), hV3660, rfl, rfl⟩ dX2_lessenAll_29
      · skip
        refine g_iload_n hk dX2_lessenAll_10 rfl ?_
        refine g_aload_n hk dX2_lessenAll_11 rfl ?_
        refine nX_22 hk dX2_lessenAll_12 ?_
        refine g_icmp_ge (tgt := 29) (a := x3656.toInt) (b := 16) hk dX2_lessenAll_13 (by decide) rfl rfl (fun z9 => absurd z9 (show ¬ (16 ≤ x3656.toInt) from by omega)) (fun _ => ?_)
        refine g_aload_n hk dX2_lessenAll_16 rfl ?_
        refine g_iload_n hk dX2_lessenAll_17 rfl ?_
        refine g_dup2 hk dX2_lessenAll_18 rfl rfl ?_
        refine lX_22 (v := (A3660 22 x3656.toNatClampNeg)) hk (vp_in_iff.mpr ⟨by omega, by omega⟩) rfl dX2_lessenAll_19 ?_
        refine g_iload_n hk dX2_lessenAll_20 rfl ?_
        have b3692l := Int32.le_toInt (A3660 22 x3656.toNatClampNeg)
        have b3692h := Int32.toInt_lt (A3660 22 x3656.toNatClampNeg)
        have b3693l := Int32.le_toInt z2
        have b3693h := Int32.toInt_lt z2
        refine g_isub hk dX2_lessenAll_21 ?_
        refine g_topi (fun y3694 ey3694 => ?_)
        have hy3694 := i32_sub0 ey3694
        refine sX_22 (j := x3656.toNatClampNeg) hk (vp_in_iff.mpr ⟨by omega, by omega⟩) rfl dX2_lessenAll_22 ?_
        obtain ⟨y3695, ey3695⟩ : ∃ y : Int32, y = x3656 + Int32.ofInt 1 := ⟨_, rfl⟩
        have hy3695 : y3695.toInt = x3656.toInt + 1 := i32_add ey3695 rfl (by decide) (by omega) (by omega)
        refine g_iinc (v := y3695) (lv' := [(3, .int y3695), (0, .ref (q 38)), (1, .ref (q 40)), (2, .int z2)]) hk 0 dX2_lessenAll_23 rfl ey3695.symm (by decide) rfl ?_
        refine g_goto (tgt := 2) hk dX2_lessenAll_26 (by decide) ?_
        exact g_lv (List.forall_mem_cons.mpr ⟨List.mem_of_getElem? (i := 0) rfl, (List.forall_mem_cons.mpr ⟨List.mem_of_getElem? (i := 1) rfl, (List.forall_mem_cons.mpr ⟨List.mem_of_getElem? (i := 2) rfl, (List.forall_mem_cons.mpr ⟨List.mem_of_getElem? (i := 3) rfl, (fun _ h => absurd h List.not_mem_nil)⟩)⟩)⟩)⟩) (ih3689 y3695 I3660 (up3 A3660 22 (x3656.toNatClampNeg) y3694) (show Md [] I I3660 from Md.tr hI3660 (show Md [] I3660 I3660 from Md.rf) rfl) (show Md [22] A (up3 A3660 22 (x3656.toNatClampNeg) y3694) from Md.tr hA3660 (show Md [22] A3660 (up3 A3660 22 (x3656.toNatClampNeg) y3694) from (Md.up3 Md.rf rfl)) rfl) ⟨(IvX_f0 (I := I3660) (A := A3660) hV3660), (IvX_f18 (I := I3660) (A := A3660) hV3660), (IvX_f30 (I := I3660) (A := A3660) hV3660), (IvX_f31 (I := I3660) (A := A3660) hV3660), (IvX_a4 (I := I3660) (A := A3660) hV3660), (IvX_a9 (I := I3660) (A := A3660) hV3660), trivial⟩ (by omega) (by omega) (by omega) (by omega))
  have k3697 : (0 : Int32).toInt = 0 := rfl
  obtain ⟨n3696, n3696a, n3696b⟩ : ∃ n : Nat, 17 - 0 < (n : Int) ∧ 0 < n := ⟨((17 - 0 : Int)).toNat + 1, by omega, by omega⟩
  exact lp3686 n3696 0 I A Md.rf Md.rf hIv (by omega) (by omega) n3696a n3696b
def wo_k231_X2_sumOf : List Cond := [Cond.fieldLink RX2 24 "WarpDesk$Fit" "length" "I"]
def wz_k231_X2_sumOf : List Cond := .code yX2_sumOf cX2_sumOf 4 (some .int) :: (wo_k231_X2_sumOf ++ (wsX20 ++ ([] : List Cond)))
theorem zg_k231_X2_sumOf : ∀ w ∈ wz_k231_X2_sumOf, goodWord w = true := zg_cons rfl (zg_app (by decide +kernel) (zg_app zgU_wsX20 zg_nil))
theorem zi_k231_X2_sumOf : ∀ w ∈ wz_k231_X2_sumOf, w ∈ lw_tbl := zi_cons zw_955 (zi_app (zi_cons zw_343 zi_nil) (zi_app inX2 zi_nil))
set_option maxHeartbeats 4000000 in
set_option maxRecDepth 100000 in
theorem k231_X2_sumOf (l : Launch) (D : va_G) (zt : Nat × Nat × Nat × (Nat → Nat) × (Nat → Nat)) (q : Nat → Nat) (d : Nat → ClassId) (I : Nat → Int32) (A : Nat → Nat → Int32) (hIv : IvX I A) : GM l D zt (tyX d) yX2_sumOf wz_k231_X2_sumOf ({ frames := 0, cells := 0, slots := 0, locals := 0 } : Room) [.ref (q 38), .ref (q 40)] (wX q d I A) (fun v _ w' => ∃ y0 : Int32, v = some (.int y0) ∧ w' = wX q d I A) 0 0 := by
  refine GM.of (cc := cX2_sumOf) (maxL := 4) (ret := (some .int)) (own := RX2) (lv := [(0, .ref (q 38)), (1, .ref (q 40))]) (by decide) rfl rfl (Nat.le_of_ble_eq_true rfl) rfl (fun κ sz hk hR hN => ?_)
  have hin2 : ∀ w ∈ u_ws RX2 TX2 10, w ∈ wz_k231_X2_sumOf := fun w h => (List.mem_cons_of_mem _ (List.mem_append_right _ (List.mem_append_left _ h)))
  refine g_iconst (v := 0) hk dX2_sumOf_0 (by decide) ?_
  refine g_istore_n (lv' := [(2, .int 0), (0, .ref (q 38)), (1, .ref (q 40))]) hk dX2_sumOf_1 (by decide) rfl ?_
  refine g_iconst (v := 0) hk dX2_sumOf_2 (by decide) ?_
  refine g_istore_n (lv' := [(3, .int 0), (2, .int 0), (0, .ref (q 38)), (1, .ref (q 40))]) hk dX2_sumOf_3 (by decide) rfl ?_
  have lp3729 : ∀ (n3730 : Nat) (x3700 : Int32) (x3701 : Int32), (0 ≤ x3700.toInt) → (x3700.toInt ≤ 16) → (17 - x3700.toInt < (n3730 : Int)) → (0 < n3730) → GW κ 4 0 0 (wX q d I A) 4 [(3, .int x3700), (2, .int x3701), (0, .ref (q 38)), (1, .ref (q 40))] [] := by
    intro n3730
    induction n3730 with
    | zero =>
      intro x3700 x3701 h3727 h3728 m3731 m3731z
      exact absurd m3731z (Nat.lt_irrefl 0)
    | succ n3730 ih3732 =>
      intro x3700 x3701 h3727 h3728 m3731 m3731z
      refine g_iload_n hk dX2_sumOf_4 rfl ?_
      refine g_aload_n hk dX2_sumOf_5 rfl ?_
      refine gX_i30 (v := (I 30)) hk hin2 (List.mem_cons_of_mem _ (List.mem_append_left _ (List.mem_of_getElem? (i := 0) rfl))) dX2_sumOf_6 rfl ?_
      have f3733 := IvX_f30 hIv
      refine g_icmp_ge (tgt := 30) (a := x3700.toInt) (b := (I 30).toInt) hk dX2_sumOf_9 (by decide) rfl rfl (fun c3734 => ?_) (fun c3734 => ?_)
      · skip
        refine g_iload_n hk dX2_sumOf_30 rfl ?_
        have b3735l := Int32.le_toInt x3701
        have b3735h := Int32.toInt_lt x3701
        exact g_iret hk hR rfl ⟨x3701, rfl, rfl⟩ dX2_sumOf_31
      · skip
        refine g_iload_n hk dX2_sumOf_12 rfl ?_
        refine g_aload_n hk dX2_sumOf_13 rfl ?_
        refine nX_22 hk dX2_sumOf_14 ?_
        refine g_icmp_ge (tgt := 30) (a := x3700.toInt) (b := 16) hk dX2_sumOf_15 (by decide) rfl rfl (fun z9 => absurd z9 (show ¬ (16 ≤ x3700.toInt) from by omega)) (fun _ => ?_)
        refine g_iload_n hk dX2_sumOf_18 rfl ?_
        refine g_aload_n hk dX2_sumOf_19 rfl ?_
        refine g_iload_n hk dX2_sumOf_20 rfl ?_
        refine lX_22 (v := (A 22 x3700.toNatClampNeg)) hk (vp_in_iff.mpr ⟨by omega, by omega⟩) rfl dX2_sumOf_21 ?_
        have b3736l := Int32.le_toInt x3701
        have b3736h := Int32.toInt_lt x3701
        have b3737l := Int32.le_toInt (A 22 x3700.toNatClampNeg)
        have b3737h := Int32.toInt_lt (A 22 x3700.toNatClampNeg)
        refine g_iadd hk dX2_sumOf_22 ?_
        refine g_topi (fun y3738 ey3738 => ?_)
        refine g_istore_n (lv' := [(2, .int y3738), (3, .int x3700), (0, .ref (q 38)), (1, .ref (q 40))]) hk dX2_sumOf_23 (by decide) rfl ?_
        obtain ⟨y3739, ey3739⟩ : ∃ y : Int32, y = x3700 + Int32.ofInt 1 := ⟨_, rfl⟩
        have hy3739 : y3739.toInt = x3700.toInt + 1 := i32_add ey3739 rfl (by decide) (by omega) (by omega)
        refine g_iinc (v := y3739) (lv' := [(3, .int y3739), (2, .int y3738), (0, .ref (q 38)), (1, .ref (q 40))]) hk 1 dX2_sumOf_24 rfl ey3739.symm (by decide) rfl ?_
        refine g_goto (tgt := 4) hk dX2_sumOf_27 (by decide) ?_
        exact g_lv (List.forall_mem_cons.mpr ⟨List.mem_of_getElem? (i := 0) rfl, (List.forall_mem_cons.mpr ⟨List.mem_of_getElem? (i := 1) rfl, (List.forall_mem_cons.mpr ⟨List.mem_of_getElem? (i := 2) rfl, (List.forall_mem_cons.mpr ⟨List.mem_of_getElem? (i := 3) rfl, (fun _ h => absurd h List.not_mem_nil)⟩)⟩)⟩)⟩) (ih3732 y3739 y3738 (by omega) (by omega) (by omega) (by omega))
  have k3741 : (0 : Int32).toInt = 0 := rfl
  obtain ⟨n3740, n3740a, n3740b⟩ : ∃ n : Nat, 17 - 0 < (n : Int) ∧ 0 < n := ⟨((17 - 0 : Int)).toNat + 1, by omega, by omega⟩
  exact lp3729 n3740 0 0 (by omega) (by omega) n3740a n3740b
def wo_k228_X2_bringToLevel : List Cond := [Cond.fieldLink RX2 24 "WarpDesk$Fit" "length" "I", Cond.methodLink RX2 61 yX2_spreadAll, Cond.instanceMethod yX2_spreadAll, Cond.selects RX2 yX2_spreadAll yX2_spreadAll, Cond.initialized RX2, Cond.methodLink RX2 57 yX2_lessenAll, Cond.instanceMethod yX2_lessenAll, Cond.selects RX2 yX2_lessenAll yX2_lessenAll, Cond.methodLink RX2 50 yX2_sumOf, Cond.instanceMethod yX2_sumOf, Cond.selects RX2 yX2_sumOf yX2_sumOf, Cond.methodLink RX2 54 yJ9_floorDiv_7cf53, Cond.static yJ9_floorDiv_7cf53, Cond.initialized RJ9]
def wz_k228_X2_bringToLevel : List Cond := .code yX2_bringToLevel cX2_bringToLevel 3 none :: (wo_k228_X2_bringToLevel ++ (wsX20 ++ (wz_k229_X2_spreadAll ++ (wz_k230_X2_lessenAll ++ (wz_k231_X2_sumOf ++ (wz_k189_J9_floorDiv_7cf53 ++ ([] : List Cond)))))))
theorem zg_k228_X2_bringToLevel : ∀ w ∈ wz_k228_X2_bringToLevel, goodWord w = true := zg_cons rfl (zg_app (by decide +kernel) (zg_app zgU_wsX20 (zg_app zg_k229_X2_spreadAll (zg_app zg_k230_X2_lessenAll (zg_app zg_k231_X2_sumOf (zg_app zg_k189_J9_floorDiv_7cf53 zg_nil))))))
theorem zi_k228_X2_bringToLevel : ∀ w ∈ wz_k228_X2_bringToLevel, w ∈ lw_tbl := zi_cons zw_951 (zi_app (zi_cons zw_343 (zi_cons zw_961 (zi_cons zw_963 (zi_cons zw_27 (zi_cons zw_112 (zi_cons zw_957 (zi_cons zw_959 (zi_cons zw_26 (zi_cons zw_952 (zi_cons zw_954 (zi_cons zw_25 (zi_cons zw_956 (zi_cons zw_845 (zi_cons zw_120 zi_nil)))))))))))))) (zi_app inX2 (zi_app zi_k229_X2_spreadAll (zi_app zi_k230_X2_lessenAll (zi_app zi_k231_X2_sumOf (zi_app zi_k189_J9_floorDiv_7cf53 zi_nil))))))
set_option maxHeartbeats 4000000 in
set_option maxRecDepth 100000 in
theorem k228_X2_bringToLevel (l : Launch) (D : va_G) (zt : Nat × Nat × Nat × (Nat → Nat) × (Nat → Nat)) (q : Nat → Nat) (d : Nat → ClassId) (I : Nat → Int32) (A : Nat → Nat → Int32) (z2 : Int32) (hIv : IvX I A) : GM l D zt (tyX d) yX2_bringToLevel wz_k228_X2_bringToLevel ({ frames := 2, cells := 0, slots := 0, locals := 38 } : Room) [.ref (q 38), .ref (q 40), .int z2] (wX q d I A) (fun v _ w' => ∃ (I' : Nat → Int32) (A' : Nat → Nat → Int32), Md [] I I' ∧ Md [22] A A' ∧ IvX I' A' ∧ v = none ∧ w' = wX q d I' A') 0 0 := by
  refine GM.of (cc := cX2_bringToLevel) (maxL := 3) (ret := none) (own := RX2) (lv := [(0, .ref (q 38)), (1, .ref (q 40)), (2, .int z2)]) (by decide) rfl rfl (Nat.le_of_ble_eq_true rfl) rfl (fun κ sz hk hR hN => ?_)
  have hin2 : ∀ w ∈ u_ws RX2 TX2 10, w ∈ wz_k228_X2_bringToLevel := fun w h => (List.mem_cons_of_mem _ (List.mem_append_right _ (List.mem_append_left _ h)))
  refine g_aload_n hk dX2_bringToLevel_0 rfl ?_
  refine gX_i30 (v := (I 30)) hk hin2 (List.mem_cons_of_mem _ (List.mem_append_left _ (List.mem_of_getElem? (i := 0) rfl))) dX2_bringToLevel_1 rfl ?_
  have f3265 := IvX_f30 hIv
  refine g_iconst (v := 1) hk dX2_bringToLevel_4 (by decide) ?_
  refine g_icmp_lt (tgt := 17) (a := (I 30).toInt) (b := 1) hk dX2_bringToLevel_5 (by decide) rfl rfl (fun z9 => absurd z9 (show ¬ ((I 30).toInt < 1) from by omega)) (fun _ => ?_)
  refine g_aload_n hk dX2_bringToLevel_8 rfl ?_
  refine gX_i30 (v := (I 30)) hk hin2 (List.mem_cons_of_mem _ (List.mem_append_left _ (List.mem_of_getElem? (i := 0) rfl))) dX2_bringToLevel_9 rfl ?_
  refine g_aload_n hk dX2_bringToLevel_12 rfl ?_
  refine nX_22 hk dX2_bringToLevel_13 ?_
  refine g_icmp_le (tgt := 18) (a := (I 30).toInt) (b := 16) hk dX2_bringToLevel_14 (by decide) rfl rfl (fun _ => ?_) (fun z9 => absurd (show (I 30).toInt ≤ 16 from by omega) z9)
  refine g_iload_n hk dX2_bringToLevel_18 rfl ?_
  refine g_iconst (v := 1) hk dX2_bringToLevel_19 (by decide) ?_
  have b3266l := Int32.le_toInt z2
  have b3266h := Int32.toInt_lt z2
  refine g_icmp_ne (tgt := 43) (a := z2.toInt) (b := 1) hk dX2_bringToLevel_20 (by decide) rfl rfl (fun c3267 => ?_) (fun c3267 => ?_)
  · skip
    refine g_iload_n hk dX2_bringToLevel_43 rfl ?_
    refine g_iconst (v := 2) hk dX2_bringToLevel_44 (by decide) ?_
    refine g_icmp_ne (tgt := 59) (a := z2.toInt) (b := 2) hk dX2_bringToLevel_45 (by decide) rfl rfl (fun c3268 => ?_) (fun c3268 => ?_)
    · skip
      refine g_iload_n hk dX2_bringToLevel_59 rfl ?_
      refine g_iconst (v := 3) hk dX2_bringToLevel_60 (by decide) ?_
      refine g_icmp_ne (tgt := 69) (a := z2.toInt) (b := 3) hk dX2_bringToLevel_61 (by decide) rfl rfl (fun c3269 => ?_) (fun c3269 => ?_)
      · skip
        exact g_vret hk hR ⟨I, A, (show Md [] I I from Md.rf), (show Md [22] A A from Md.rf), hIv, rfl, rfl⟩ dX2_bringToLevel_69
      · skip
        refine g_aload_n hk dX2_bringToLevel_64 rfl ?_
        refine g_aload_n hk dX2_bringToLevel_65 rfl ?_
        refine g_callV (n := 1) hk (k229_X2_spreadAll l D zt q d I A  hIv) (SP.same _) (fun _ h => h) (gi_V (List.mem_cons_of_mem _ (List.mem_append_left _ (List.mem_of_getElem? (i := 1) rfl))) (List.mem_cons_of_mem _ (List.mem_append_left _ (List.mem_of_getElem? (i := 2) rfl))) (List.mem_cons_of_mem _ (List.mem_append_left _ (List.mem_of_getElem? (i := 3) rfl))) (List.mem_cons_of_mem _ (List.mem_append_left _ (List.mem_of_getElem? (i := 4) rfl))) (gi_sub (fun w h => (List.mem_cons_of_mem _ (List.mem_append_right _ (List.mem_append_right _ (List.mem_append_left _ h))))) zg_k229_X2_spreadAll)) rfl rfl rfl (by decide +kernel) ⟨Nat.le_of_ble_eq_true rfl, Nat.le_of_ble_eq_true rfl⟩ 38 rfl rfl rfl rfl (Nat.le_of_ble_eq_true rfl) ⟨Nat.le_of_ble_eq_true rfl, Nat.le_of_ble_eq_true rfl⟩ dX2_bringToLevel_66 (fun v ty' w' hp hk' => ?_)
        obtain ⟨I3655, A3655, hI3655, hA3655, hV3655, rfl, rfl⟩ := hp
        show GW κ 3 0 0 (wX q d I3655 A3655) 69 [(0, .ref (q 38)), (1, .ref (q 40)), (2, .int z2)] []
        exact g_vret hk hR ⟨I3655, A3655, (show Md [] I I3655 from (Md.tr Md.rf hI3655 rfl)), (show Md [22] A A3655 from (Md.tr Md.rf hA3655 rfl)), hV3655, rfl, rfl⟩ dX2_bringToLevel_69
    · skip
      refine g_aload_n hk dX2_bringToLevel_48 rfl ?_
      refine g_aload_n hk dX2_bringToLevel_49 rfl ?_
      refine g_aload_n hk dX2_bringToLevel_50 rfl ?_
      refine g_iconst (v := 0) hk dX2_bringToLevel_51 (by decide) ?_
      refine lX_22 (v := (A 22 0)) hk (vp_in_iff.mpr ⟨by decide, by decide⟩) rfl dX2_bringToLevel_52 ?_
      refine g_callV (n := 2) hk (k230_X2_lessenAll l D zt q d I A (A 22 0) hIv) (SP.same _) (fun _ h => h) (gi_V (List.mem_cons_of_mem _ (List.mem_append_left _ (List.mem_of_getElem? (i := 5) rfl))) (List.mem_cons_of_mem _ (List.mem_append_left _ (List.mem_of_getElem? (i := 6) rfl))) (List.mem_cons_of_mem _ (List.mem_append_left _ (List.mem_of_getElem? (i := 7) rfl))) (List.mem_cons_of_mem _ (List.mem_append_left _ (List.mem_of_getElem? (i := 4) rfl))) (gi_sub (fun w h => (List.mem_cons_of_mem _ (List.mem_append_right _ (List.mem_append_right _ (List.mem_append_right _ (List.mem_append_left _ h)))))) zg_k230_X2_lessenAll)) rfl rfl rfl (by decide +kernel) ⟨Nat.le_of_ble_eq_true rfl, Nat.le_of_ble_eq_true rfl⟩ 38 rfl rfl rfl rfl (Nat.le_of_ble_eq_true rfl) ⟨Nat.le_of_ble_eq_true rfl, Nat.le_of_ble_eq_true rfl⟩ dX2_bringToLevel_53 (fun v ty' w' hp hk' => ?_)
      obtain ⟨I3699, A3699, hI3699, hA3699, hV3699, rfl, rfl⟩ := hp
      show GW κ 3 0 0 (wX q d I3699 A3699) 56 [(0, .ref (q 38)), (1, .ref (q 40)), (2, .int z2)] []
      refine g_goto (tgt := 69) hk dX2_bringToLevel_56 (by decide) ?_
      exact g_vret hk hR ⟨I3699, A3699, (show Md [] I I3699 from (Md.tr Md.rf hI3699 rfl)), (show Md [22] A A3699 from (Md.tr Md.rf hA3699 rfl)), hV3699, rfl, rfl⟩ dX2_bringToLevel_69
  · skip
    refine g_aload_n hk dX2_bringToLevel_23 rfl ?_
    refine g_aload_n hk dX2_bringToLevel_24 rfl ?_
    refine g_aload_n hk dX2_bringToLevel_25 rfl ?_
    refine g_aload_n hk dX2_bringToLevel_26 rfl ?_
    refine g_callV (n := 1) hk (k231_X2_sumOf l D zt q d I A  hIv) (SP.same _) (fun _ h => h) (gi_V (List.mem_cons_of_mem _ (List.mem_append_left _ (List.mem_of_getElem? (i := 8) rfl))) (List.mem_cons_of_mem _ (List.mem_append_left _ (List.mem_of_getElem? (i := 9) rfl))) (List.mem_cons_of_mem _ (List.mem_append_left _ (List.mem_of_getElem? (i := 10) rfl))) (List.mem_cons_of_mem _ (List.mem_append_left _ (List.mem_of_getElem? (i := 4) rfl))) (gi_sub (fun w h => (List.mem_cons_of_mem _ (List.mem_append_right _ (List.mem_append_right _ (List.mem_append_right _ (List.mem_append_right _ (List.mem_append_left _ h))))))) zg_k231_X2_sumOf)) rfl rfl rfl (by decide +kernel) ⟨Nat.le_of_ble_eq_true rfl, Nat.le_of_ble_eq_true rfl⟩ 38 rfl rfl rfl rfl (Nat.le_of_ble_eq_true rfl) ⟨Nat.le_of_ble_eq_true rfl, Nat.le_of_ble_eq_true rfl⟩ dX2_bringToLevel_27 (fun v ty' w' hp hk' => ?_)
    obtain ⟨y3742, rfl, rfl⟩ := hp
    show GW κ 3 0 0 (wX q d I A) 30 [(0, .ref (q 38)), (1, .ref (q 40)), (2, .int z2)] [.int y3742, .ref (q 40), .ref (q 38)]
    refine g_aload_n hk dX2_bringToLevel_30 rfl ?_
    refine gX_i30 (v := (I 30)) hk hin2 (List.mem_cons_of_mem _ (List.mem_append_left _ (List.mem_of_getElem? (i := 0) rfl))) dX2_bringToLevel_31 rfl ?_
    refine g_callS (n := 2) hk (k189_J9_floorDiv_7cf53 l D zt q d I A y3742 (I 30) hIv (by omega)) (SP.same _) (fun _ h => h) (gi_S (List.mem_cons_of_mem _ (List.mem_append_left _ (List.mem_of_getElem? (i := 11) rfl))) (List.mem_cons_of_mem _ (List.mem_append_left _ (List.mem_of_getElem? (i := 12) rfl))) (List.mem_cons_of_mem _ (List.mem_append_left _ (List.mem_of_getElem? (i := 13) rfl))) (gi_sub (fun w h => (List.mem_cons_of_mem _ (List.mem_append_right _ (List.mem_append_right _ (List.mem_append_right _ (List.mem_append_right _ (List.mem_append_right _ (List.mem_append_left _ h)))))))) zg_k189_J9_floorDiv_7cf53)) rfl rfl rfl (by decide +kernel) ⟨Nat.le_of_ble_eq_true rfl, Nat.le_of_ble_eq_true rfl⟩ rfl rfl (Nat.le_of_ble_eq_true rfl) ⟨Nat.le_of_ble_eq_true rfl, Nat.le_of_ble_eq_true rfl⟩ dX2_bringToLevel_34 (fun v ty' w' hp hk' => ?_)
    obtain ⟨y3743, rfl, rfl⟩ := hp
    show GW κ 3 0 0 (wX q d I A) 37 [(0, .ref (q 38)), (1, .ref (q 40)), (2, .int z2)] [.int y3743, .ref (q 40), .ref (q 38)]
    refine g_callV (n := 2) hk (k230_X2_lessenAll l D zt q d I A y3743 hIv) (SP.same _) (fun _ h => h) (gi_V (List.mem_cons_of_mem _ (List.mem_append_left _ (List.mem_of_getElem? (i := 5) rfl))) (List.mem_cons_of_mem _ (List.mem_append_left _ (List.mem_of_getElem? (i := 6) rfl))) (List.mem_cons_of_mem _ (List.mem_append_left _ (List.mem_of_getElem? (i := 7) rfl))) (List.mem_cons_of_mem _ (List.mem_append_left _ (List.mem_of_getElem? (i := 4) rfl))) (gi_sub (fun w h => (List.mem_cons_of_mem _ (List.mem_append_right _ (List.mem_append_right _ (List.mem_append_right _ (List.mem_append_left _ h)))))) zg_k230_X2_lessenAll)) rfl rfl rfl (by decide +kernel) ⟨Nat.le_of_ble_eq_true rfl, Nat.le_of_ble_eq_true rfl⟩ 38 rfl rfl rfl rfl (Nat.le_of_ble_eq_true rfl) ⟨Nat.le_of_ble_eq_true rfl, Nat.le_of_ble_eq_true rfl⟩ dX2_bringToLevel_37 (fun v ty' w' hp hk' => ?_)
    obtain ⟨I3745, A3745, hI3745, hA3745, hV3745, rfl, rfl⟩ := hp
    show GW κ 3 0 0 (wX q d I3745 A3745) 40 [(0, .ref (q 38)), (1, .ref (q 40)), (2, .int z2)] []
    refine g_goto (tgt := 69) hk dX2_bringToLevel_40 (by decide) ?_
    exact g_vret hk hR ⟨I3745, A3745, (show Md [] I I3745 from (Md.tr Md.rf hI3745 rfl)), (show Md [22] A A3745 from (Md.tr Md.rf hA3745 rfl)), hV3745, rfl, rfl⟩ dX2_bringToLevel_69
def wo_k226_X0_laySecondWindow : List Cond := [Cond.fieldLink RX0 18 "WarpDesk$Bench" "series" "LWarpDesk$Series;", Cond.fieldLink RX0 77 "WarpDesk$Bench" "length" "I", Cond.fieldLink RX0 12 "WarpDesk$Bench" "fit" "LWarpDesk$Fit;", Cond.fieldLink RX0 88 "WarpDesk$Fit" "right" "[I", Cond.methodLink RX0 81 yX6_copyWindow, Cond.instanceMethod yX6_copyWindow, Cond.selects RX6 yX6_copyWindow yX6_copyWindow, Cond.initialized RX6, Cond.fieldLink RX0 26 "WarpDesk$Bench" "settings" "LWarpDesk$Settings;", Cond.methodLink RX0 49 yX7_valueOf, Cond.instanceMethod yX7_valueOf, Cond.selects RX7 yX7_valueOf yX7_valueOf, Cond.initialized RX7, Cond.methodLink RX0 73 yX2_bringToLevel, Cond.instanceMethod yX2_bringToLevel, Cond.selects RX2 yX2_bringToLevel yX2_bringToLevel, Cond.initialized RX2]
def wz_k226_X0_laySecondWindow : List Cond := .code yX0_laySecondWindow cX0_laySecondWindow 2 none :: (wo_k226_X0_laySecondWindow ++ (wsX00 ++ (wsX20 ++ (wz_k227_X6_copyWindow ++ (wz_k194_X7_valueOf ++ (wz_k228_X2_bringToLevel ++ ([] : List Cond)))))))
theorem zg_k226_X0_laySecondWindow : ∀ w ∈ wz_k226_X0_laySecondWindow, goodWord w = true := zg_cons rfl (zg_app (by decide +kernel) (zg_app zgU_wsX00 (zg_app zgU_wsX20 (zg_app zg_k227_X6_copyWindow (zg_app zg_k194_X7_valueOf (zg_app zg_k228_X2_bringToLevel zg_nil))))))
theorem zi_k226_X0_laySecondWindow : ∀ w ∈ wz_k226_X0_laySecondWindow, w ∈ lw_tbl := zi_cons zw_991 (zi_app (zi_cons zw_373 (zi_cons zw_384 (zi_cons zw_380 (zi_cons zw_338 (zi_cons zw_944 (zi_cons zw_945 (zi_cons zw_946 (zi_cons zw_109 (zi_cons zw_378 (zi_cons zw_933 (zi_cons zw_786 (zi_cons zw_787 (zi_cons zw_107 (zi_cons zw_948 (zi_cons zw_949 (zi_cons zw_950 (zi_cons zw_112 zi_nil))))))))))))))))) (zi_app inX0 (zi_app inX2 (zi_app zi_k227_X6_copyWindow (zi_app zi_k194_X7_valueOf (zi_app zi_k228_X2_bringToLevel zi_nil))))))
set_option maxHeartbeats 4000000 in
set_option maxRecDepth 100000 in
theorem k226_X0_laySecondWindow (l : Launch) (D : va_G) (zt : Nat × Nat × Nat × (Nat → Nat) × (Nat → Nat)) (q : Nat → Nat) (d : Nat → ClassId) (I : Nat → Int32) (A : Nat → Nat → Int32) (z1 : Int32) (hIv : IvX I A) : GM l D zt (tyX d) yX0_laySecondWindow wz_k226_X0_laySecondWindow ({ frames := 3, cells := 0, slots := 0, locals := 60 } : Room) [.ref (q 37), .int z1] (wX q d I A) (fun v _ w' => ∃ (I' : Nat → Int32) (A' : Nat → Nat → Int32), Md [] I I' ∧ Md [22] A A' ∧ IvX I' A' ∧ v = none ∧ w' = wX q d I' A') 0 0 := by
  refine GM.of (cc := cX0_laySecondWindow) (maxL := 2) (ret := none) (own := RX0) (lv := [(0, .ref (q 37)), (1, .int z1)]) (by decide) rfl rfl (Nat.le_of_ble_eq_true rfl) rfl (fun κ sz hk hR hN => ?_)
  have hin0 : ∀ w ∈ u_ws RX0 TX0 5, w ∈ wz_k226_X0_laySecondWindow := fun w h => (List.mem_cons_of_mem _ (List.mem_append_right _ (List.mem_append_left _ h)))
  have hin2 : ∀ w ∈ u_ws RX2 TX2 10, w ∈ wz_k226_X0_laySecondWindow := fun w h => (List.mem_cons_of_mem _ (List.mem_append_right _ (List.mem_append_right _ (List.mem_append_left _ h))))
  refine g_aload_n hk dX0_laySecondWindow_0 rfl ?_
  refine gX_r37_0 hk hin0 (List.mem_cons_of_mem _ (List.mem_append_left _ (List.mem_of_getElem? (i := 0) rfl))) dX0_laySecondWindow_1 ?_
  refine g_iload_n hk dX0_laySecondWindow_4 rfl ?_
  refine g_aload_n hk dX0_laySecondWindow_5 rfl ?_
  refine gX_i28 (v := (I 28)) hk hin0 (List.mem_cons_of_mem _ (List.mem_append_left _ (List.mem_of_getElem? (i := 1) rfl))) dX0_laySecondWindow_6 rfl ?_
  refine g_aload_n hk dX0_laySecondWindow_9 rfl ?_
  refine gX_r37_3 hk hin0 (List.mem_cons_of_mem _ (List.mem_append_left _ (List.mem_of_getElem? (i := 2) rfl))) dX0_laySecondWindow_10 ?_
  refine gX_r38_1 hk hin2 (List.mem_cons_of_mem _ (List.mem_append_left _ (List.mem_of_getElem? (i := 3) rfl))) dX0_laySecondWindow_13 ?_
  refine g_callV (n := 3) hk (k227_X6_copyWindow l D zt q d I A z1 (I 28) hIv) (SP.same _) (fun _ h => h) (gi_V (List.mem_cons_of_mem _ (List.mem_append_left _ (List.mem_of_getElem? (i := 4) rfl))) (List.mem_cons_of_mem _ (List.mem_append_left _ (List.mem_of_getElem? (i := 5) rfl))) (List.mem_cons_of_mem _ (List.mem_append_left _ (List.mem_of_getElem? (i := 6) rfl))) (List.mem_cons_of_mem _ (List.mem_append_left _ (List.mem_of_getElem? (i := 7) rfl))) (gi_sub (fun w h => (List.mem_cons_of_mem _ (List.mem_append_right _ (List.mem_append_right _ (List.mem_append_right _ (List.mem_append_left _ h)))))) zg_k227_X6_copyWindow)) rfl rfl rfl (by decide +kernel) ⟨Nat.le_of_ble_eq_true rfl, Nat.le_of_ble_eq_true rfl⟩ 13 rfl rfl rfl rfl (Nat.le_of_ble_eq_true rfl) ⟨Nat.le_of_ble_eq_true rfl, Nat.le_of_ble_eq_true rfl⟩ dX0_laySecondWindow_16 (fun v ty' w' hp hk' => ?_)
  obtain ⟨I3262, A3262, hI3262, hA3262, hV3262, rfl, rfl⟩ := hp
  show GW κ 2 0 0 (wX q d I3262 A3262) 19 [(0, .ref (q 37)), (1, .int z1)] []
  refine g_aload_n hk dX0_laySecondWindow_19 rfl ?_
  refine gX_r37_3 hk hin0 (List.mem_cons_of_mem _ (List.mem_append_left _ (List.mem_of_getElem? (i := 2) rfl))) dX0_laySecondWindow_20 ?_
  refine g_aload_n hk dX0_laySecondWindow_23 rfl ?_
  refine gX_r37_3 hk hin0 (List.mem_cons_of_mem _ (List.mem_append_left _ (List.mem_of_getElem? (i := 2) rfl))) dX0_laySecondWindow_24 ?_
  refine gX_r38_1 hk hin2 (List.mem_cons_of_mem _ (List.mem_append_left _ (List.mem_of_getElem? (i := 3) rfl))) dX0_laySecondWindow_27 ?_
  refine g_aload_n hk dX0_laySecondWindow_30 rfl ?_
  refine gX_r37_2 hk hin0 (List.mem_cons_of_mem _ (List.mem_append_left _ (List.mem_of_getElem? (i := 8) rfl))) dX0_laySecondWindow_31 ?_
  refine g_iconst (v := 1) hk dX0_laySecondWindow_34 (by decide) ?_
  have k3263 : (1 : Int32).toInt = 1 := rfl
  refine g_callV (n := 1) hk (k194_X7_valueOf l D zt q d I3262 A3262 1 hV3262) (SP.same _) (fun _ h => h) (gi_V (List.mem_cons_of_mem _ (List.mem_append_left _ (List.mem_of_getElem? (i := 9) rfl))) (List.mem_cons_of_mem _ (List.mem_append_left _ (List.mem_of_getElem? (i := 10) rfl))) (List.mem_cons_of_mem _ (List.mem_append_left _ (List.mem_of_getElem? (i := 11) rfl))) (List.mem_cons_of_mem _ (List.mem_append_left _ (List.mem_of_getElem? (i := 12) rfl))) (gi_sub (fun w h => (List.mem_cons_of_mem _ (List.mem_append_right _ (List.mem_append_right _ (List.mem_append_right _ (List.mem_append_right _ (List.mem_append_left _ h))))))) zg_k194_X7_valueOf)) rfl rfl rfl (by decide +kernel) ⟨Nat.le_of_ble_eq_true rfl, Nat.le_of_ble_eq_true rfl⟩ 18 rfl rfl rfl rfl (Nat.le_of_ble_eq_true rfl) ⟨Nat.le_of_ble_eq_true rfl, Nat.le_of_ble_eq_true rfl⟩ dX0_laySecondWindow_35 (fun v ty' w' hp hk' => ?_)
  obtain ⟨y3264, rfl, rfl⟩ := hp
  show GW κ 2 0 0 (wX q d I3262 A3262) 38 [(0, .ref (q 37)), (1, .int z1)] [.int y3264, .ref (q 40), .ref (q 38)]
  refine g_callV (n := 2) hk (k228_X2_bringToLevel l D zt q d I3262 A3262 y3264 hV3262) (SP.same _) (fun _ h => h) (gi_V (List.mem_cons_of_mem _ (List.mem_append_left _ (List.mem_of_getElem? (i := 13) rfl))) (List.mem_cons_of_mem _ (List.mem_append_left _ (List.mem_of_getElem? (i := 14) rfl))) (List.mem_cons_of_mem _ (List.mem_append_left _ (List.mem_of_getElem? (i := 15) rfl))) (List.mem_cons_of_mem _ (List.mem_append_left _ (List.mem_of_getElem? (i := 16) rfl))) (gi_sub (fun w h => (List.mem_cons_of_mem _ (List.mem_append_right _ (List.mem_append_right _ (List.mem_append_right _ (List.mem_append_right _ (List.mem_append_right _ (List.mem_append_left _ h)))))))) zg_k228_X2_bringToLevel)) rfl rfl rfl (by decide +kernel) ⟨Nat.le_of_ble_eq_true rfl, Nat.le_of_ble_eq_true rfl⟩ 38 rfl rfl rfl rfl (Nat.le_of_ble_eq_true rfl) ⟨Nat.le_of_ble_eq_true rfl, Nat.le_of_ble_eq_true rfl⟩ dX0_laySecondWindow_38 (fun v ty' w' hp hk' => ?_)
  obtain ⟨I3747, A3747, hI3747, hA3747, hV3747, rfl, rfl⟩ := hp
  show GW κ 2 0 0 (wX q d I3747 A3747) 41 [(0, .ref (q 37)), (1, .int z1)] []
  exact g_vret hk hR ⟨I3747, A3747, (show Md [] I I3747 from (Md.tr (Md.tr Md.rf hI3262 rfl) hI3747 rfl)), (show Md [22] A A3747 from (Md.tr (Md.tr Md.rf hA3262 rfl) hA3747 rfl)), hV3747, rfl, rfl⟩ dX0_laySecondWindow_41
def wo_k222_X0_openBoth : List Cond := [Cond.methodLink RX0 46 yX0_hasBoth, Cond.instanceMethod yX0_hasBoth, Cond.selects RX0 yX0_hasBoth yX0_hasBoth, Cond.initialized RX0, Cond.fieldLink RX0 26 "WarpDesk$Bench" "settings" "LWarpDesk$Settings;", Cond.methodLink RX0 49 yX7_valueOf, Cond.instanceMethod yX7_valueOf, Cond.selects RX7 yX7_valueOf yX7_valueOf, Cond.initialized RX7, Cond.methodLink RX0 54 yX0_openQuery, Cond.instanceMethod yX0_openQuery, Cond.selects RX0 yX0_openQuery yX0_openQuery, Cond.methodLink RX0 58 yX0_laySecondWindow, Cond.instanceMethod yX0_laySecondWindow, Cond.selects RX0 yX0_laySecondWindow yX0_laySecondWindow]
def wz_k222_X0_openBoth : List Cond := .code yX0_openBoth cX0_openBoth 3 (some .boolean) :: (wo_k222_X0_openBoth ++ (wsX00 ++ (wz_k223_X0_hasBoth ++ (wz_k194_X7_valueOf ++ (wz_k224_X0_openQuery ++ (wz_k226_X0_laySecondWindow ++ ([] : List Cond)))))))
theorem zg_k222_X0_openBoth : ∀ w ∈ wz_k222_X0_openBoth, goodWord w = true := zg_cons rfl (zg_app (by decide +kernel) (zg_app zgU_wsX00 (zg_app zg_k223_X0_hasBoth (zg_app zg_k194_X7_valueOf (zg_app zg_k224_X0_openQuery (zg_app zg_k226_X0_laySecondWindow zg_nil))))))
theorem zi_k222_X0_openBoth : ∀ w ∈ wz_k222_X0_openBoth, w ∈ lw_tbl := zi_cons zw_972 (zi_app (zi_cons zw_973 (zi_cons zw_974 (zi_cons zw_975 (zi_cons zw_111 (zi_cons zw_378 (zi_cons zw_933 (zi_cons zw_786 (zi_cons zw_787 (zi_cons zw_107 (zi_cons zw_980 (zi_cons zw_981 (zi_cons zw_982 (zi_cons zw_988 (zi_cons zw_989 (zi_cons zw_990 zi_nil))))))))))))))) (zi_app inX0 (zi_app zi_k223_X0_hasBoth (zi_app zi_k194_X7_valueOf (zi_app zi_k224_X0_openQuery (zi_app zi_k226_X0_laySecondWindow zi_nil))))))
set_option maxHeartbeats 4000000 in
set_option maxRecDepth 100000 in
theorem k222_X0_openBoth (l : Launch) (D : va_G) (zt : Nat × Nat × Nat × (Nat → Nat) × (Nat → Nat)) (q : Nat → Nat) (d : Nat → ClassId) (I : Nat → Int32) (A : Nat → Nat → Int32) (z1 : Int32) (z2 : Int32) (hIv : IvX I A) : GM l D zt (tyX d) yX0_openBoth wz_k222_X0_openBoth ({ frames := 5, cells := 0, slots := 0, locals := 109 } : Room) [.ref (q 37), .int z1, .int z2] (wX q d I A) (fun v _ w' => ∃ (I' : Nat → Int32) (A' : Nat → Nat → Int32), Md [28, 30, 31, 32] I I' ∧ Md [21, 22] A A' ∧ IvX I' A' ∧ ∃ y0 : Int32, (0 ≤ y0.toInt) ∧ (y0.toInt ≤ 1) ∧ v = some (.int y0) ∧ w' = wX q d I' A') 0 0 := by
  refine GM.of (cc := cX0_openBoth) (maxL := 3) (ret := (some .boolean)) (own := RX0) (lv := [(0, .ref (q 37)), (1, .int z1), (2, .int z2)]) (by decide) rfl rfl (Nat.le_of_ble_eq_true rfl) rfl (fun κ sz hk hR hN => ?_)
  have hin0 : ∀ w ∈ u_ws RX0 TX0 5, w ∈ wz_k222_X0_openBoth := fun w h => (List.mem_cons_of_mem _ (List.mem_append_right _ (List.mem_append_left _ h)))
  refine g_aload_n hk dX0_openBoth_0 rfl ?_
  refine g_iload_n hk dX0_openBoth_1 rfl ?_
  refine g_iload_n hk dX0_openBoth_2 rfl ?_
  refine g_callV (n := 2) hk (k223_X0_hasBoth l D zt q d I A z1 z2 hIv) (SP.same _) (fun _ h => h) (gi_V (List.mem_cons_of_mem _ (List.mem_append_left _ (List.mem_of_getElem? (i := 0) rfl))) (List.mem_cons_of_mem _ (List.mem_append_left _ (List.mem_of_getElem? (i := 1) rfl))) (List.mem_cons_of_mem _ (List.mem_append_left _ (List.mem_of_getElem? (i := 2) rfl))) (List.mem_cons_of_mem _ (List.mem_append_left _ (List.mem_of_getElem? (i := 3) rfl))) (gi_sub (fun w h => (List.mem_cons_of_mem _ (List.mem_append_right _ (List.mem_append_right _ (List.mem_append_left _ h))))) zg_k223_X0_hasBoth)) rfl rfl rfl (by decide +kernel) ⟨Nat.le_of_ble_eq_true rfl, Nat.le_of_ble_eq_true rfl⟩ 37 rfl rfl rfl rfl (Nat.le_of_ble_eq_true rfl) ⟨Nat.le_of_ble_eq_true rfl, Nat.le_of_ble_eq_true rfl⟩ dX0_openBoth_3 (fun v ty' w' hp hk' => ?_)
  rcases hp with ⟨rfl, rfl⟩ | ⟨c3094, c3095, c3096, c3097, c3098, c3099, c3100, c3101, rfl, rfl⟩
  · skip
    show GW κ 3 0 0 (wX q d I A) 6 [(0, .ref (q 37)), (1, .int z1), (2, .int z2)] [.int 0]
    refine g_if_ne (tgt := 11) (a := 0) hk dX0_openBoth_6 (by decide) rfl (fun z9 => absurd z9 (show ¬ ((0 : Int) ≠ (0 : Int)) from by decide)) (fun _ => ?_)
    refine g_iconst (v := 0) hk dX0_openBoth_9 (by decide) ?_
    exact g_iret hk hR rfl ⟨I, A, (show Md [28, 30, 31, 32] I I from Md.rf), (show Md [21, 22] A A from Md.rf), hIv, 0, (by decide), (by decide), rfl, rfl⟩ dX0_openBoth_10
  · skip
    show GW κ 3 0 0 (wX q d I A) 6 [(0, .ref (q 37)), (1, .int z1), (2, .int z2)] [.int 1]
    refine g_if_ne (tgt := 11) (a := 1) hk dX0_openBoth_6 (by decide) rfl (fun _ => ?_) (fun z9 => absurd (show (1 : Int) ≠ (0 : Int) from by decide) z9)
    refine g_aload_n hk dX0_openBoth_11 rfl ?_
    refine g_iload_n hk dX0_openBoth_12 rfl ?_
    refine g_aload_n hk dX0_openBoth_13 rfl ?_
    refine gX_r37_2 hk hin0 (List.mem_cons_of_mem _ (List.mem_append_left _ (List.mem_of_getElem? (i := 4) rfl))) dX0_openBoth_14 ?_
    refine g_iconst (v := 0) hk dX0_openBoth_17 (by decide) ?_
    have k3103 : (0 : Int32).toInt = 0 := rfl
    refine g_callV (n := 1) hk (k194_X7_valueOf l D zt q d I A 0 hIv) (SP.same _) (fun _ h => h) (gi_V (List.mem_cons_of_mem _ (List.mem_append_left _ (List.mem_of_getElem? (i := 5) rfl))) (List.mem_cons_of_mem _ (List.mem_append_left _ (List.mem_of_getElem? (i := 6) rfl))) (List.mem_cons_of_mem _ (List.mem_append_left _ (List.mem_of_getElem? (i := 7) rfl))) (List.mem_cons_of_mem _ (List.mem_append_left _ (List.mem_of_getElem? (i := 8) rfl))) (gi_sub (fun w h => (List.mem_cons_of_mem _ (List.mem_append_right _ (List.mem_append_right _ (List.mem_append_right _ (List.mem_append_left _ h)))))) zg_k194_X7_valueOf)) rfl rfl rfl (by decide +kernel) ⟨Nat.le_of_ble_eq_true rfl, Nat.le_of_ble_eq_true rfl⟩ 18 rfl rfl rfl rfl (Nat.le_of_ble_eq_true rfl) ⟨Nat.le_of_ble_eq_true rfl, Nat.le_of_ble_eq_true rfl⟩ dX0_openBoth_18 (fun v ty' w' hp hk' => ?_)
    obtain ⟨y3104, rfl, rfl⟩ := hp
    show GW κ 3 0 0 (wX q d I A) 21 [(0, .ref (q 37)), (1, .int z1), (2, .int z2)] [.int y3104, .int z1, .ref (q 37)]
    refine g_callV (n := 2) hk (k224_X0_openQuery l D zt q d I A z1 y3104 hIv) (SP.same _) (fun _ h => h) (gi_V (List.mem_cons_of_mem _ (List.mem_append_left _ (List.mem_of_getElem? (i := 9) rfl))) (List.mem_cons_of_mem _ (List.mem_append_left _ (List.mem_of_getElem? (i := 10) rfl))) (List.mem_cons_of_mem _ (List.mem_append_left _ (List.mem_of_getElem? (i := 11) rfl))) (List.mem_cons_of_mem _ (List.mem_append_left _ (List.mem_of_getElem? (i := 3) rfl))) (gi_sub (fun w h => (List.mem_cons_of_mem _ (List.mem_append_right _ (List.mem_append_right _ (List.mem_append_right _ (List.mem_append_right _ (List.mem_append_left _ h))))))) zg_k224_X0_openQuery)) rfl rfl rfl (by decide +kernel) ⟨Nat.le_of_ble_eq_true rfl, Nat.le_of_ble_eq_true rfl⟩ 37 rfl rfl rfl rfl (Nat.le_of_ble_eq_true rfl) ⟨Nat.le_of_ble_eq_true rfl, Nat.le_of_ble_eq_true rfl⟩ dX0_openBoth_21 (fun v ty' w' hp hk' => ?_)
    obtain ⟨I3213, A3213, hI3213, hA3213, hV3213, rfl, rfl⟩ := hp
    show GW κ 3 0 0 (wX q d I3213 A3213) 24 [(0, .ref (q 37)), (1, .int z1), (2, .int z2)] []
    refine g_aload_n hk dX0_openBoth_24 rfl ?_
    refine g_iload_n hk dX0_openBoth_25 rfl ?_
    refine g_callV (n := 1) hk (k226_X0_laySecondWindow l D zt q d I3213 A3213 z2 hV3213) (SP.same _) (fun _ h => h) (gi_V (List.mem_cons_of_mem _ (List.mem_append_left _ (List.mem_of_getElem? (i := 12) rfl))) (List.mem_cons_of_mem _ (List.mem_append_left _ (List.mem_of_getElem? (i := 13) rfl))) (List.mem_cons_of_mem _ (List.mem_append_left _ (List.mem_of_getElem? (i := 14) rfl))) (List.mem_cons_of_mem _ (List.mem_append_left _ (List.mem_of_getElem? (i := 3) rfl))) (gi_sub (fun w h => (List.mem_cons_of_mem _ (List.mem_append_right _ (List.mem_append_right _ (List.mem_append_right _ (List.mem_append_right _ (List.mem_append_right _ (List.mem_append_left _ h)))))))) zg_k226_X0_laySecondWindow)) rfl rfl rfl (by decide +kernel) ⟨Nat.le_of_ble_eq_true rfl, Nat.le_of_ble_eq_true rfl⟩ 37 rfl rfl rfl rfl (Nat.le_of_ble_eq_true rfl) ⟨Nat.le_of_ble_eq_true rfl, Nat.le_of_ble_eq_true rfl⟩ dX0_openBoth_26 (fun v ty' w' hp hk' => ?_)
    obtain ⟨I3749, A3749, hI3749, hA3749, hV3749, rfl, rfl⟩ := hp
    show GW κ 3 0 0 (wX q d I3749 A3749) 29 [(0, .ref (q 37)), (1, .int z1), (2, .int z2)] []
    refine g_iconst (v := 1) hk dX0_openBoth_29 (by decide) ?_
    exact g_iret hk hR rfl ⟨I3749, A3749, (show Md [28, 30, 31, 32] I I3749 from (Md.tr (Md.tr Md.rf hI3213 rfl) hI3749 rfl)), (show Md [21, 22] A A3749 from (Md.tr (Md.tr Md.rf hA3213 rfl) hA3749 rfl)), hV3749, 1, (by decide), (by decide), rfl, rfl⟩ dX0_openBoth_30
def wo_k235_X2_costOf : List Cond := [Cond.fieldLink RX2 42 "WarpDesk$Fit" "isSquare" "Z"]
def wz_k235_X2_costOf : List Cond := .code yX2_costOf cX2_costOf 4 (some .int) :: (wo_k235_X2_costOf ++ (wsX20 ++ ([] : List Cond)))
theorem zg_k235_X2_costOf : ∀ w ∈ wz_k235_X2_costOf, goodWord w = true := zg_cons rfl (zg_app (by decide +kernel) (zg_app zgU_wsX20 zg_nil))
theorem zi_k235_X2_costOf : ∀ w ∈ wz_k235_X2_costOf, w ∈ lw_tbl := zi_cons zw_1008 (zi_app (zi_cons zw_345 zi_nil) (zi_app inX2 zi_nil))
set_option maxHeartbeats 4000000 in
set_option maxRecDepth 100000 in
theorem k235_X2_costOf (l : Launch) (D : va_G) (zt : Nat × Nat × Nat × (Nat → Nat) × (Nat → Nat)) (q : Nat → Nat) (d : Nat → ClassId) (I : Nat → Int32) (A : Nat → Nat → Int32) (z1 : Int32) (z2 : Int32) (hIv : IvX I A) : GM l D zt (tyX d) yX2_costOf wz_k235_X2_costOf ({ frames := 0, cells := 0, slots := 0, locals := 0 } : Room) [.ref (q 38), .int z1, .int z2] (wX q d I A) (fun v _ w' => ∃ y0 : Int32, v = some (.int y0) ∧ w' = wX q d I A) 0 0 := by
  refine GM.of (cc := cX2_costOf) (maxL := 4) (ret := (some .int)) (own := RX2) (lv := [(0, .ref (q 38)), (1, .int z1), (2, .int z2)]) (by decide) rfl rfl (Nat.le_of_ble_eq_true rfl) rfl (fun κ sz hk hR hN => ?_)
  have hin2 : ∀ w ∈ u_ws RX2 TX2 10, w ∈ wz_k235_X2_costOf := fun w h => (List.mem_cons_of_mem _ (List.mem_append_right _ (List.mem_append_left _ h)))
  refine g_iload_n hk dX2_costOf_0 rfl ?_
  refine g_iload_n hk dX2_costOf_1 rfl ?_
  have b3785l := Int32.le_toInt z1
  have b3785h := Int32.toInt_lt z1
  have b3786l := Int32.le_toInt z2
  have b3786h := Int32.toInt_lt z2
  refine g_isub hk dX2_costOf_2 ?_
  refine g_topi (fun y3787 ey3787 => ?_)
  have hy3787 := i32_sub0 ey3787
  refine g_istore_n (lv' := [(3, .int y3787), (0, .ref (q 38)), (1, .int z1), (2, .int z2)]) hk dX2_costOf_3 (by decide) rfl ?_
  refine g_aload_n hk dX2_costOf_4 rfl ?_
  refine gX_i32 (v := (I 32)) hk hin2 (List.mem_cons_of_mem _ (List.mem_append_left _ (List.mem_of_getElem? (i := 0) rfl))) dX2_costOf_5 rfl ?_
  have b3788l := Int32.le_toInt (I 32)
  have b3788h := Int32.toInt_lt (I 32)
  refine g_if_eq (tgt := 15) (a := (I 32).toInt) hk dX2_costOf_8 (by decide) rfl (fun c3789 => ?_) (fun c3789 => ?_)
  · skip
    refine g_iload_n hk dX2_costOf_15 rfl ?_
    have b3790l := Int32.le_toInt y3787
    have b3790h := Int32.toInt_lt y3787
    refine g_if_ge (tgt := 24) (a := y3787.toInt) hk dX2_costOf_16 (by decide) rfl (fun c3791 => ?_) (fun c3791 => ?_)
    · skip
      refine g_iload_n hk dX2_costOf_24 rfl ?_
      exact g_iret hk hR rfl ⟨y3787, rfl, rfl⟩ dX2_costOf_25
    · skip
      refine g_iload_n hk dX2_costOf_19 rfl ?_
      refine g_ineg hk dX2_costOf_20 ?_
      refine g_topi (fun y3792 ey3792 => ?_)
      refine g_goto (tgt := 25) hk dX2_costOf_21 (by decide) ?_
      have b3793l := Int32.le_toInt y3792
      have b3793h := Int32.toInt_lt y3792
      exact g_iret hk hR rfl ⟨y3792, rfl, rfl⟩ dX2_costOf_25
  · skip
    refine g_iload_n hk dX2_costOf_11 rfl ?_
    refine g_iload_n hk dX2_costOf_12 rfl ?_
    have b3794l := Int32.le_toInt y3787
    have b3794h := Int32.toInt_lt y3787
    refine g_imul hk dX2_costOf_13 ?_
    refine g_topi (fun y3795 ey3795 => ?_)
    have b3796l := Int32.le_toInt y3795
    have b3796h := Int32.toInt_lt y3795
    exact g_iret hk hR rfl ⟨y3795, rfl, rfl⟩ dX2_costOf_14
def wo_k236_X2_leastAhead : List Cond := [Cond.constant RX2 93 (2147483647), Cond.fieldLink RX2 37 "WarpDesk$Fit" "band" "I", Cond.fieldLink RX2 18 "WarpDesk$Fit" "table" "[I"]
def wz_k236_X2_leastAhead : List Cond := .code yX2_leastAhead cX2_leastAhead 5 (some .int) :: (wo_k236_X2_leastAhead ++ (wsX20 ++ ([] : List Cond)))
theorem zg_k236_X2_leastAhead : ∀ w ∈ wz_k236_X2_leastAhead, goodWord w = true := zg_cons rfl (zg_app (by decide +kernel) (zg_app zgU_wsX20 zg_nil))
theorem zi_k236_X2_leastAhead : ∀ w ∈ wz_k236_X2_leastAhead, w ∈ lw_tbl := zi_cons zw_1012 (zi_app (zi_cons zw_996 (zi_cons zw_344 (zi_cons zw_339 zi_nil))) (zi_app inX2 zi_nil))
set_option maxHeartbeats 4000000 in
set_option maxRecDepth 100000 in
theorem k236_X2_leastAhead (l : Launch) (D : va_G) (zt : Nat × Nat × Nat × (Nat → Nat) × (Nat → Nat)) (q : Nat → Nat) (d : Nat → ClassId) (I : Nat → Int32) (A : Nat → Nat → Int32) (z1 : Int32) (z2 : Int32) (hIv : IvX I A) (hp0 : 0 ≤ z1.toInt) (hp1 : z1.toInt ≤ 15) (hp2 : 0 ≤ z2.toInt) (hp3 : z2.toInt ≤ 15) : GM l D zt (tyX d) yX2_leastAhead wz_k236_X2_leastAhead ({ frames := 0, cells := 0, slots := 0, locals := 0 } : Room) [.ref (q 38), .int z1, .int z2] (wX q d I A) (fun v _ w' => ∃ y0 : Int32, v = some (.int y0) ∧ w' = wX q d I A) 0 0 := by
  refine GM.of (cc := cX2_leastAhead) (maxL := 5) (ret := (some .int)) (own := RX2) (lv := [(0, .ref (q 38)), (1, .int z1), (2, .int z2)]) (by decide) rfl rfl (Nat.le_of_ble_eq_true rfl) rfl (fun κ sz hk hR hN => ?_)
  have hin2 : ∀ w ∈ u_ws RX2 TX2 10, w ∈ wz_k236_X2_leastAhead := fun w h => (List.mem_cons_of_mem _ (List.mem_append_right _ (List.mem_append_left _ h)))
  refine g_iload_n hk dX2_leastAhead_0 rfl ?_
  refine g_bipush (v := 16) hk dX2_leastAhead_1 (by decide) ?_
  refine g_imul hk dX2_leastAhead_3 ?_
  refine g_topi (fun y3799 ey3799 => ?_)
  have hy3799 : y3799.toInt = z1.toInt * 16 := i32_mul ey3799 rfl rfl (by omega) (by omega)
  refine g_iload_n hk dX2_leastAhead_4 rfl ?_
  refine g_iadd hk dX2_leastAhead_5 ?_
  refine g_topi (fun y3800 ey3800 => ?_)
  have hy3800 : y3800.toInt = y3799.toInt + z2.toInt := i32_add ey3800 rfl rfl (by omega) (by omega)
  refine g_istore_n (lv' := [(3, .int y3800), (0, .ref (q 38)), (1, .int z1), (2, .int z2)]) hk dX2_leastAhead_6 (by decide) rfl ?_
  refine g_ldc (v := 2147483647) hk (List.mem_cons_of_mem _ (List.mem_append_left _ (List.mem_of_getElem? (i := 0) rfl))) dX2_leastAhead_7 ?_
  refine g_istore (lv' := [(4, .int 2147483647), (3, .int y3800), (0, .ref (q 38)), (1, .int z1), (2, .int z2)]) hk dX2_leastAhead_9 (by decide) rfl ?_
  refine g_iload_n hk dX2_leastAhead_11 rfl ?_
  refine g_if_le (tgt := 32) (a := z1.toInt) hk dX2_leastAhead_12 (by decide) rfl (fun c3801 => ?_) (fun c3801 => ?_)
  · skip
    refine g_iload_n hk dX2_leastAhead_32 rfl ?_
    refine g_if_le (tgt := 71) (a := z1.toInt) hk dX2_leastAhead_33 (by decide) rfl (fun _ => ?_) (fun z9 => absurd (show z1.toInt ≤ 0 from by omega) z9)
    refine g_iload_n hk dX2_leastAhead_71 rfl ?_
    refine g_if_le (tgt := 108) (a := z2.toInt) hk dX2_leastAhead_72 (by decide) rfl (fun c3802 => ?_) (fun c3802 => ?_)
    · skip
      refine g_iload hk dX2_leastAhead_108 rfl ?_
      exact g_iret hk hR rfl ⟨2147483647, rfl, rfl⟩ dX2_leastAhead_110
    · skip
      refine g_iload_n hk dX2_leastAhead_75 rfl ?_
      refine g_iload_n hk dX2_leastAhead_76 rfl ?_
      refine g_isub hk dX2_leastAhead_77 ?_
      refine g_topi (fun y3803 ey3803 => ?_)
      have hy3803 : y3803.toInt = z1.toInt - z2.toInt := i32_sub ey3803 rfl rfl (by omega) (by omega)
      refine g_aload_n hk dX2_leastAhead_78 rfl ?_
      refine gX_i31 (v := (I 31)) hk hin2 (List.mem_cons_of_mem _ (List.mem_append_left _ (List.mem_of_getElem? (i := 1) rfl))) dX2_leastAhead_79 rfl ?_
      have f3804 := IvX_f31 hIv
      have b3805l := Int32.le_toInt (I 31)
      have b3805h := Int32.toInt_lt (I 31)
      refine g_icmp_ge (tgt := 108) (a := y3803.toInt) (b := (I 31).toInt) hk dX2_leastAhead_82 (by decide) rfl rfl (fun z9 => absurd z9 (show ¬ ((I 31).toInt ≤ y3803.toInt) from by omega)) (fun _ => ?_)
      refine g_aload_n hk dX2_leastAhead_85 rfl ?_
      refine gX_r38_2 hk hin2 (List.mem_cons_of_mem _ (List.mem_append_left _ (List.mem_of_getElem? (i := 2) rfl))) dX2_leastAhead_86 ?_
      refine g_iload_n hk dX2_leastAhead_89 rfl ?_
      refine g_iconst (v := 1) hk dX2_leastAhead_90 (by decide) ?_
      refine g_isub hk dX2_leastAhead_91 ?_
      refine g_topi (fun y3806 ey3806 => ?_)
      have hy3806 : y3806.toInt = y3800.toInt - 1 := i32_sub ey3806 rfl rfl (by omega) (by omega)
      refine lX_23 (v := (A 23 y3806.toNatClampNeg)) hk (vp_in_iff.mpr ⟨by omega, by omega⟩) rfl dX2_leastAhead_92 ?_
      refine g_iload hk dX2_leastAhead_93 rfl ?_
      have b3807l := Int32.le_toInt (A 23 y3806.toNatClampNeg)
      have b3807h := Int32.toInt_lt (A 23 y3806.toNatClampNeg)
      refine g_icmp_ge (tgt := 108) (a := (A 23 y3806.toNatClampNeg).toInt) (b := 2147483647) hk dX2_leastAhead_95 (by decide) rfl rfl (fun c3808 => ?_) (fun c3808 => ?_)
      · skip
        refine g_iload hk dX2_leastAhead_108 rfl ?_
        exact g_iret hk hR rfl ⟨2147483647, rfl, rfl⟩ dX2_leastAhead_110
      · skip
        refine g_aload_n hk dX2_leastAhead_98 rfl ?_
        refine gX_r38_2 hk hin2 (List.mem_cons_of_mem _ (List.mem_append_left _ (List.mem_of_getElem? (i := 2) rfl))) dX2_leastAhead_99 ?_
        refine g_iload_n hk dX2_leastAhead_102 rfl ?_
        refine g_iconst (v := 1) hk dX2_leastAhead_103 (by decide) ?_
        refine g_isub hk dX2_leastAhead_104 ?_
        refine g_topi (fun y3809 ey3809 => ?_)
        have hy3809 : y3809.toInt = y3800.toInt - 1 := i32_sub ey3809 rfl rfl (by omega) (by omega)
        refine lX_23 (v := (A 23 y3809.toNatClampNeg)) hk (vp_in_iff.mpr ⟨by omega, by omega⟩) rfl dX2_leastAhead_105 ?_
        refine g_istore (lv' := [(4, .int (A 23 y3809.toNatClampNeg)), (3, .int y3800), (0, .ref (q 38)), (1, .int z1), (2, .int z2)]) hk dX2_leastAhead_106 (by decide) rfl ?_
        refine g_iload hk dX2_leastAhead_108 rfl ?_
        have b3810l := Int32.le_toInt (A 23 y3809.toNatClampNeg)
        have b3810h := Int32.toInt_lt (A 23 y3809.toNatClampNeg)
        exact g_iret hk hR rfl ⟨(A 23 y3809.toNatClampNeg), rfl, rfl⟩ dX2_leastAhead_110
  · skip
    refine g_iload_n hk dX2_leastAhead_15 rfl ?_
    refine g_if_le (tgt := 32) (a := z2.toInt) hk dX2_leastAhead_16 (by decide) rfl (fun c3811 => ?_) (fun c3811 => ?_)
    · skip
      refine g_iload_n hk dX2_leastAhead_32 rfl ?_
      refine g_if_le (tgt := 71) (a := z1.toInt) hk dX2_leastAhead_33 (by decide) rfl (fun z9 => absurd z9 (show ¬ (z1.toInt ≤ 0) from by omega)) (fun _ => ?_)
      refine g_iload_n hk dX2_leastAhead_36 rfl ?_
      refine g_iload_n hk dX2_leastAhead_37 rfl ?_
      refine g_isub hk dX2_leastAhead_38 ?_
      refine g_topi (fun y3812 ey3812 => ?_)
      have hy3812 : y3812.toInt = z2.toInt - z1.toInt := i32_sub ey3812 rfl rfl (by omega) (by omega)
      refine g_aload_n hk dX2_leastAhead_39 rfl ?_
      refine gX_i31 (v := (I 31)) hk hin2 (List.mem_cons_of_mem _ (List.mem_append_left _ (List.mem_of_getElem? (i := 1) rfl))) dX2_leastAhead_40 rfl ?_
      have f3813 := IvX_f31 hIv
      have b3814l := Int32.le_toInt (I 31)
      have b3814h := Int32.toInt_lt (I 31)
      refine g_icmp_ge (tgt := 71) (a := y3812.toInt) (b := (I 31).toInt) hk dX2_leastAhead_43 (by decide) rfl rfl (fun z9 => absurd z9 (show ¬ ((I 31).toInt ≤ y3812.toInt) from by omega)) (fun _ => ?_)
      refine g_aload_n hk dX2_leastAhead_46 rfl ?_
      refine gX_r38_2 hk hin2 (List.mem_cons_of_mem _ (List.mem_append_left _ (List.mem_of_getElem? (i := 2) rfl))) dX2_leastAhead_47 ?_
      refine g_iload_n hk dX2_leastAhead_50 rfl ?_
      refine g_bipush (v := 16) hk dX2_leastAhead_51 (by decide) ?_
      refine g_isub hk dX2_leastAhead_53 ?_
      refine g_topi (fun y3815 ey3815 => ?_)
      have hy3815 : y3815.toInt = y3800.toInt - 16 := i32_sub ey3815 rfl rfl (by omega) (by omega)
      refine lX_23 (v := (A 23 y3815.toNatClampNeg)) hk (vp_in_iff.mpr ⟨by omega, by omega⟩) rfl dX2_leastAhead_54 ?_
      refine g_iload hk dX2_leastAhead_55 rfl ?_
      have b3816l := Int32.le_toInt (A 23 y3815.toNatClampNeg)
      have b3816h := Int32.toInt_lt (A 23 y3815.toNatClampNeg)
      refine g_icmp_ge (tgt := 71) (a := (A 23 y3815.toNatClampNeg).toInt) (b := 2147483647) hk dX2_leastAhead_57 (by decide) rfl rfl (fun c3817 => ?_) (fun c3817 => ?_)
      · skip
        refine g_iload_n hk dX2_leastAhead_71 rfl ?_
        refine g_if_le (tgt := 108) (a := z2.toInt) hk dX2_leastAhead_72 (by decide) rfl (fun _ => ?_) (fun z9 => absurd (show z2.toInt ≤ 0 from by omega) z9)
        refine g_iload hk dX2_leastAhead_108 rfl ?_
        exact g_iret hk hR rfl ⟨2147483647, rfl, rfl⟩ dX2_leastAhead_110
      · skip
        refine g_aload_n hk dX2_leastAhead_60 rfl ?_
        refine gX_r38_2 hk hin2 (List.mem_cons_of_mem _ (List.mem_append_left _ (List.mem_of_getElem? (i := 2) rfl))) dX2_leastAhead_61 ?_
        refine g_iload_n hk dX2_leastAhead_64 rfl ?_
        refine g_bipush (v := 16) hk dX2_leastAhead_65 (by decide) ?_
        refine g_isub hk dX2_leastAhead_67 ?_
        refine g_topi (fun y3818 ey3818 => ?_)
        have hy3818 : y3818.toInt = y3800.toInt - 16 := i32_sub ey3818 rfl rfl (by omega) (by omega)
        refine lX_23 (v := (A 23 y3818.toNatClampNeg)) hk (vp_in_iff.mpr ⟨by omega, by omega⟩) rfl dX2_leastAhead_68 ?_
        refine g_istore (lv' := [(4, .int (A 23 y3818.toNatClampNeg)), (3, .int y3800), (0, .ref (q 38)), (1, .int z1), (2, .int z2)]) hk dX2_leastAhead_69 (by decide) rfl ?_
        refine g_iload_n hk dX2_leastAhead_71 rfl ?_
        refine g_if_le (tgt := 108) (a := z2.toInt) hk dX2_leastAhead_72 (by decide) rfl (fun _ => ?_) (fun z9 => absurd (show z2.toInt ≤ 0 from by omega) z9)
        refine g_iload hk dX2_leastAhead_108 rfl ?_
        have b3819l := Int32.le_toInt (A 23 y3818.toNatClampNeg)
        have b3819h := Int32.toInt_lt (A 23 y3818.toNatClampNeg)
        exact g_iret hk hR rfl ⟨(A 23 y3818.toNatClampNeg), rfl, rfl⟩ dX2_leastAhead_110
    · skip
      refine g_aload_n hk dX2_leastAhead_19 rfl ?_
      refine gX_r38_2 hk hin2 (List.mem_cons_of_mem _ (List.mem_append_left _ (List.mem_of_getElem? (i := 2) rfl))) dX2_leastAhead_20 ?_
      refine g_iload_n hk dX2_leastAhead_23 rfl ?_
      refine g_bipush (v := 16) hk dX2_leastAhead_24 (by decide) ?_
      refine g_isub hk dX2_leastAhead_26 ?_
      refine g_topi (fun y3820 ey3820 => ?_)
      have hy3820 : y3820.toInt = y3800.toInt - 16 := i32_sub ey3820 rfl rfl (by omega) (by omega)
      refine g_iconst (v := 1) hk dX2_leastAhead_27 (by decide) ?_
      refine g_isub hk dX2_leastAhead_28 ?_
      refine g_topi (fun y3821 ey3821 => ?_)
      have hy3821 : y3821.toInt = y3820.toInt - 1 := i32_sub ey3821 rfl rfl (by omega) (by omega)
      refine lX_23 (v := (A 23 y3821.toNatClampNeg)) hk (vp_in_iff.mpr ⟨by omega, by omega⟩) rfl dX2_leastAhead_29 ?_
      refine g_istore (lv' := [(4, .int (A 23 y3821.toNatClampNeg)), (3, .int y3800), (0, .ref (q 38)), (1, .int z1), (2, .int z2)]) hk dX2_leastAhead_30 (by decide) rfl ?_
      refine g_iload_n hk dX2_leastAhead_32 rfl ?_
      refine g_if_le (tgt := 71) (a := z1.toInt) hk dX2_leastAhead_33 (by decide) rfl (fun z9 => absurd z9 (show ¬ (z1.toInt ≤ 0) from by omega)) (fun _ => ?_)
      refine g_iload_n hk dX2_leastAhead_36 rfl ?_
      refine g_iload_n hk dX2_leastAhead_37 rfl ?_
      refine g_isub hk dX2_leastAhead_38 ?_
      refine g_topi (fun y3822 ey3822 => ?_)
      have hy3822 : y3822.toInt = z2.toInt - z1.toInt := i32_sub ey3822 rfl rfl (by omega) (by omega)
      refine g_aload_n hk dX2_leastAhead_39 rfl ?_
      refine gX_i31 (v := (I 31)) hk hin2 (List.mem_cons_of_mem _ (List.mem_append_left _ (List.mem_of_getElem? (i := 1) rfl))) dX2_leastAhead_40 rfl ?_
      have f3823 := IvX_f31 hIv
      have b3824l := Int32.le_toInt (I 31)
      have b3824h := Int32.toInt_lt (I 31)
      refine g_icmp_ge (tgt := 71) (a := y3822.toInt) (b := (I 31).toInt) hk dX2_leastAhead_43 (by decide) rfl rfl (fun c3825 => ?_) (fun c3825 => ?_)
      · skip
        refine g_iload_n hk dX2_leastAhead_71 rfl ?_
        refine g_if_le (tgt := 108) (a := z2.toInt) hk dX2_leastAhead_72 (by decide) rfl (fun z9 => absurd z9 (show ¬ (z2.toInt ≤ 0) from by omega)) (fun _ => ?_)
        refine g_iload_n hk dX2_leastAhead_75 rfl ?_
        refine g_iload_n hk dX2_leastAhead_76 rfl ?_
        refine g_isub hk dX2_leastAhead_77 ?_
        refine g_topi (fun y3826 ey3826 => ?_)
        have hy3826 : y3826.toInt = z1.toInt - z2.toInt := i32_sub ey3826 rfl rfl (by omega) (by omega)
        refine g_aload_n hk dX2_leastAhead_78 rfl ?_
        refine gX_i31 (v := (I 31)) hk hin2 (List.mem_cons_of_mem _ (List.mem_append_left _ (List.mem_of_getElem? (i := 1) rfl))) dX2_leastAhead_79 rfl ?_
        refine g_icmp_ge (tgt := 108) (a := y3826.toInt) (b := (I 31).toInt) hk dX2_leastAhead_82 (by decide) rfl rfl (fun c3827 => ?_) (fun c3827 => ?_)
        · skip
          refine g_iload hk dX2_leastAhead_108 rfl ?_
          have b3828l := Int32.le_toInt (A 23 y3821.toNatClampNeg)
          have b3828h := Int32.toInt_lt (A 23 y3821.toNatClampNeg)
          exact g_iret hk hR rfl ⟨(A 23 y3821.toNatClampNeg), rfl, rfl⟩ dX2_leastAhead_110
        · skip
          refine g_aload_n hk dX2_leastAhead_85 rfl ?_
          refine gX_r38_2 hk hin2 (List.mem_cons_of_mem _ (List.mem_append_left _ (List.mem_of_getElem? (i := 2) rfl))) dX2_leastAhead_86 ?_
          refine g_iload_n hk dX2_leastAhead_89 rfl ?_
          refine g_iconst (v := 1) hk dX2_leastAhead_90 (by decide) ?_
          refine g_isub hk dX2_leastAhead_91 ?_
          refine g_topi (fun y3829 ey3829 => ?_)
          have hy3829 : y3829.toInt = y3800.toInt - 1 := i32_sub ey3829 rfl rfl (by omega) (by omega)
          refine lX_23 (v := (A 23 y3829.toNatClampNeg)) hk (vp_in_iff.mpr ⟨by omega, by omega⟩) rfl dX2_leastAhead_92 ?_
          refine g_iload hk dX2_leastAhead_93 rfl ?_
          have b3830l := Int32.le_toInt (A 23 y3829.toNatClampNeg)
          have b3830h := Int32.toInt_lt (A 23 y3829.toNatClampNeg)
          have b3831l := Int32.le_toInt (A 23 y3821.toNatClampNeg)
          have b3831h := Int32.toInt_lt (A 23 y3821.toNatClampNeg)
          refine g_icmp_ge (tgt := 108) (a := (A 23 y3829.toNatClampNeg).toInt) (b := (A 23 y3821.toNatClampNeg).toInt) hk dX2_leastAhead_95 (by decide) rfl rfl (fun c3832 => ?_) (fun c3832 => ?_)
          · skip
            refine g_iload hk dX2_leastAhead_108 rfl ?_
            exact g_iret hk hR rfl ⟨(A 23 y3821.toNatClampNeg), rfl, rfl⟩ dX2_leastAhead_110
          · skip
            refine g_aload_n hk dX2_leastAhead_98 rfl ?_
            refine gX_r38_2 hk hin2 (List.mem_cons_of_mem _ (List.mem_append_left _ (List.mem_of_getElem? (i := 2) rfl))) dX2_leastAhead_99 ?_
            refine g_iload_n hk dX2_leastAhead_102 rfl ?_
            refine g_iconst (v := 1) hk dX2_leastAhead_103 (by decide) ?_
            refine g_isub hk dX2_leastAhead_104 ?_
            refine g_topi (fun y3833 ey3833 => ?_)
            have hy3833 : y3833.toInt = y3800.toInt - 1 := i32_sub ey3833 rfl rfl (by omega) (by omega)
            refine lX_23 (v := (A 23 y3833.toNatClampNeg)) hk (vp_in_iff.mpr ⟨by omega, by omega⟩) rfl dX2_leastAhead_105 ?_
            refine g_istore (lv' := [(4, .int (A 23 y3833.toNatClampNeg)), (3, .int y3800), (0, .ref (q 38)), (1, .int z1), (2, .int z2)]) hk dX2_leastAhead_106 (by decide) rfl ?_
            refine g_iload hk dX2_leastAhead_108 rfl ?_
            have b3834l := Int32.le_toInt (A 23 y3833.toNatClampNeg)
            have b3834h := Int32.toInt_lt (A 23 y3833.toNatClampNeg)
            exact g_iret hk hR rfl ⟨(A 23 y3833.toNatClampNeg), rfl, rfl⟩ dX2_leastAhead_110
      · skip
        refine g_aload_n hk dX2_leastAhead_46 rfl ?_
        refine gX_r38_2 hk hin2 (List.mem_cons_of_mem _ (List.mem_append_left _ (List.mem_of_getElem? (i := 2) rfl))) dX2_leastAhead_47 ?_
        refine g_iload_n hk dX2_leastAhead_50 rfl ?_
        refine g_bipush (v := 16) hk dX2_leastAhead_51 (by decide) ?_
        refine g_isub hk dX2_leastAhead_53 ?_
        refine g_topi (fun y3835 ey3835 => ?_)
        have hy3835 : y3835.toInt = y3800.toInt - 16 := i32_sub ey3835 rfl rfl (by omega) (by omega)
        refine lX_23 (v := (A 23 y3835.toNatClampNeg)) hk (vp_in_iff.mpr ⟨by omega, by omega⟩) rfl dX2_leastAhead_54 ?_
        refine g_iload hk dX2_leastAhead_55 rfl ?_
        have b3836l := Int32.le_toInt (A 23 y3835.toNatClampNeg)
        have b3836h := Int32.toInt_lt (A 23 y3835.toNatClampNeg)
        have b3837l := Int32.le_toInt (A 23 y3821.toNatClampNeg)
        have b3837h := Int32.toInt_lt (A 23 y3821.toNatClampNeg)
        refine g_icmp_ge (tgt := 71) (a := (A 23 y3835.toNatClampNeg).toInt) (b := (A 23 y3821.toNatClampNeg).toInt) hk dX2_leastAhead_57 (by decide) rfl rfl (fun c3838 => ?_) (fun c3838 => ?_)
        · skip
          refine g_iload_n hk dX2_leastAhead_71 rfl ?_
          refine g_if_le (tgt := 108) (a := z2.toInt) hk dX2_leastAhead_72 (by decide) rfl (fun z9 => absurd z9 (show ¬ (z2.toInt ≤ 0) from by omega)) (fun _ => ?_)
          refine g_iload_n hk dX2_leastAhead_75 rfl ?_
          refine g_iload_n hk dX2_leastAhead_76 rfl ?_
          refine g_isub hk dX2_leastAhead_77 ?_
          refine g_topi (fun y3839 ey3839 => ?_)
          have hy3839 : y3839.toInt = z1.toInt - z2.toInt := i32_sub ey3839 rfl rfl (by omega) (by omega)
          refine g_aload_n hk dX2_leastAhead_78 rfl ?_
          refine gX_i31 (v := (I 31)) hk hin2 (List.mem_cons_of_mem _ (List.mem_append_left _ (List.mem_of_getElem? (i := 1) rfl))) dX2_leastAhead_79 rfl ?_
          refine g_icmp_ge (tgt := 108) (a := y3839.toInt) (b := (I 31).toInt) hk dX2_leastAhead_82 (by decide) rfl rfl (fun c3840 => ?_) (fun c3840 => ?_)
          · skip
            refine g_iload hk dX2_leastAhead_108 rfl ?_
            exact g_iret hk hR rfl ⟨(A 23 y3821.toNatClampNeg), rfl, rfl⟩ dX2_leastAhead_110
          · skip
            refine g_aload_n hk dX2_leastAhead_85 rfl ?_
            refine gX_r38_2 hk hin2 (List.mem_cons_of_mem _ (List.mem_append_left _ (List.mem_of_getElem? (i := 2) rfl))) dX2_leastAhead_86 ?_
            refine g_iload_n hk dX2_leastAhead_89 rfl ?_
            refine g_iconst (v := 1) hk dX2_leastAhead_90 (by decide) ?_
            refine g_isub hk dX2_leastAhead_91 ?_
            refine g_topi (fun y3841 ey3841 => ?_)
            have hy3841 : y3841.toInt = y3800.toInt - 1 := i32_sub ey3841 rfl rfl (by omega) (by omega)
            refine lX_23 (v := (A 23 y3841.toNatClampNeg)) hk (vp_in_iff.mpr ⟨by omega, by omega⟩) rfl dX2_leastAhead_92 ?_
            refine g_iload hk dX2_leastAhead_93 rfl ?_
            have b3842l := Int32.le_toInt (A 23 y3841.toNatClampNeg)
            have b3842h := Int32.toInt_lt (A 23 y3841.toNatClampNeg)
            refine g_icmp_ge (tgt := 108) (a := (A 23 y3841.toNatClampNeg).toInt) (b := (A 23 y3821.toNatClampNeg).toInt) hk dX2_leastAhead_95 (by decide) rfl rfl (fun c3843 => ?_) (fun c3843 => ?_)
            · skip
              refine g_iload hk dX2_leastAhead_108 rfl ?_
              exact g_iret hk hR rfl ⟨(A 23 y3821.toNatClampNeg), rfl, rfl⟩ dX2_leastAhead_110
            · skip
              refine g_aload_n hk dX2_leastAhead_98 rfl ?_
              refine gX_r38_2 hk hin2 (List.mem_cons_of_mem _ (List.mem_append_left _ (List.mem_of_getElem? (i := 2) rfl))) dX2_leastAhead_99 ?_
              refine g_iload_n hk dX2_leastAhead_102 rfl ?_
              refine g_iconst (v := 1) hk dX2_leastAhead_103 (by decide) ?_
              refine g_isub hk dX2_leastAhead_104 ?_
              refine g_topi (fun y3844 ey3844 => ?_)
              have hy3844 : y3844.toInt = y3800.toInt - 1 := i32_sub ey3844 rfl rfl (by omega) (by omega)
              refine lX_23 (v := (A 23 y3844.toNatClampNeg)) hk (vp_in_iff.mpr ⟨by omega, by omega⟩) rfl dX2_leastAhead_105 ?_
              refine g_istore (lv' := [(4, .int (A 23 y3844.toNatClampNeg)), (3, .int y3800), (0, .ref (q 38)), (1, .int z1), (2, .int z2)]) hk dX2_leastAhead_106 (by decide) rfl ?_
              refine g_iload hk dX2_leastAhead_108 rfl ?_
              have b3845l := Int32.le_toInt (A 23 y3844.toNatClampNeg)
              have b3845h := Int32.toInt_lt (A 23 y3844.toNatClampNeg)
              exact g_iret hk hR rfl ⟨(A 23 y3844.toNatClampNeg), rfl, rfl⟩ dX2_leastAhead_110
        · skip
          refine g_aload_n hk dX2_leastAhead_60 rfl ?_
          refine gX_r38_2 hk hin2 (List.mem_cons_of_mem _ (List.mem_append_left _ (List.mem_of_getElem? (i := 2) rfl))) dX2_leastAhead_61 ?_
          refine g_iload_n hk dX2_leastAhead_64 rfl ?_
          refine g_bipush (v := 16) hk dX2_leastAhead_65 (by decide) ?_
          refine g_isub hk dX2_leastAhead_67 ?_
          refine g_topi (fun y3846 ey3846 => ?_)
          have hy3846 : y3846.toInt = y3800.toInt - 16 := i32_sub ey3846 rfl rfl (by omega) (by omega)
          refine lX_23 (v := (A 23 y3846.toNatClampNeg)) hk (vp_in_iff.mpr ⟨by omega, by omega⟩) rfl dX2_leastAhead_68 ?_
          refine g_istore (lv' := [(4, .int (A 23 y3846.toNatClampNeg)), (3, .int y3800), (0, .ref (q 38)), (1, .int z1), (2, .int z2)]) hk dX2_leastAhead_69 (by decide) rfl ?_
          refine g_iload_n hk dX2_leastAhead_71 rfl ?_
          refine g_if_le (tgt := 108) (a := z2.toInt) hk dX2_leastAhead_72 (by decide) rfl (fun z9 => absurd z9 (show ¬ (z2.toInt ≤ 0) from by omega)) (fun _ => ?_)
          refine g_iload_n hk dX2_leastAhead_75 rfl ?_
          refine g_iload_n hk dX2_leastAhead_76 rfl ?_
          refine g_isub hk dX2_leastAhead_77 ?_
          refine g_topi (fun y3847 ey3847 => ?_)
          have hy3847 : y3847.toInt = z1.toInt - z2.toInt := i32_sub ey3847 rfl rfl (by omega) (by omega)
          refine g_aload_n hk dX2_leastAhead_78 rfl ?_
          refine gX_i31 (v := (I 31)) hk hin2 (List.mem_cons_of_mem _ (List.mem_append_left _ (List.mem_of_getElem? (i := 1) rfl))) dX2_leastAhead_79 rfl ?_
          refine g_icmp_ge (tgt := 108) (a := y3847.toInt) (b := (I 31).toInt) hk dX2_leastAhead_82 (by decide) rfl rfl (fun c3848 => ?_) (fun c3848 => ?_)
          · skip
            refine g_iload hk dX2_leastAhead_108 rfl ?_
            have b3849l := Int32.le_toInt (A 23 y3846.toNatClampNeg)
            have b3849h := Int32.toInt_lt (A 23 y3846.toNatClampNeg)
            exact g_iret hk hR rfl ⟨(A 23 y3846.toNatClampNeg), rfl, rfl⟩ dX2_leastAhead_110
          · skip
            refine g_aload_n hk dX2_leastAhead_85 rfl ?_
            refine gX_r38_2 hk hin2 (List.mem_cons_of_mem _ (List.mem_append_left _ (List.mem_of_getElem? (i := 2) rfl))) dX2_leastAhead_86 ?_
            refine g_iload_n hk dX2_leastAhead_89 rfl ?_
            refine g_iconst (v := 1) hk dX2_leastAhead_90 (by decide) ?_
            refine g_isub hk dX2_leastAhead_91 ?_
            refine g_topi (fun y3850 ey3850 => ?_)
            have hy3850 : y3850.toInt = y3800.toInt - 1 := i32_sub ey3850 rfl rfl (by omega) (by omega)
            refine lX_23 (v := (A 23 y3850.toNatClampNeg)) hk (vp_in_iff.mpr ⟨by omega, by omega⟩) rfl dX2_leastAhead_92 ?_
            refine g_iload hk dX2_leastAhead_93 rfl ?_
            have b3851l := Int32.le_toInt (A 23 y3850.toNatClampNeg)
            have b3851h := Int32.toInt_lt (A 23 y3850.toNatClampNeg)
            have b3852l := Int32.le_toInt (A 23 y3846.toNatClampNeg)
            have b3852h := Int32.toInt_lt (A 23 y3846.toNatClampNeg)
            refine g_icmp_ge (tgt := 108) (a := (A 23 y3850.toNatClampNeg).toInt) (b := (A 23 y3846.toNatClampNeg).toInt) hk dX2_leastAhead_95 (by decide) rfl rfl (fun c3853 => ?_) (fun c3853 => ?_)
            · skip
              refine g_iload hk dX2_leastAhead_108 rfl ?_
              exact g_iret hk hR rfl ⟨(A 23 y3846.toNatClampNeg), rfl, rfl⟩ dX2_leastAhead_110
            · skip
              refine g_aload_n hk dX2_leastAhead_98 rfl ?_
              refine gX_r38_2 hk hin2 (List.mem_cons_of_mem _ (List.mem_append_left _ (List.mem_of_getElem? (i := 2) rfl))) dX2_leastAhead_99 ?_
              refine g_iload_n hk dX2_leastAhead_102 rfl ?_
              refine g_iconst (v := 1) hk dX2_leastAhead_103 (by decide) ?_
              refine g_isub hk dX2_leastAhead_104 ?_
              refine g_topi (fun y3854 ey3854 => ?_)
              have hy3854 : y3854.toInt = y3800.toInt - 1 := i32_sub ey3854 rfl rfl (by omega) (by omega)
              refine lX_23 (v := (A 23 y3854.toNatClampNeg)) hk (vp_in_iff.mpr ⟨by omega, by omega⟩) rfl dX2_leastAhead_105 ?_
              refine g_istore (lv' := [(4, .int (A 23 y3854.toNatClampNeg)), (3, .int y3800), (0, .ref (q 38)), (1, .int z1), (2, .int z2)]) hk dX2_leastAhead_106 (by decide) rfl ?_
              refine g_iload hk dX2_leastAhead_108 rfl ?_
              have b3855l := Int32.le_toInt (A 23 y3854.toNatClampNeg)
              have b3855h := Int32.toInt_lt (A 23 y3854.toNatClampNeg)
              exact g_iret hk hR rfl ⟨(A 23 y3854.toNatClampNeg), rfl, rfl⟩ dX2_leastAhead_110
def wo_k234_X2_layRow : List Cond := [Cond.fieldLink RX2 37 "WarpDesk$Fit" "band" "I", Cond.methodLink RX2 34 Lib.Math.max.name, Cond.static Lib.Math.max.name, Cond.initialized "java/lang/Math", Cond.code Lib.Math.max.name Lib.Math.max.code 2 (some .int), Cond.fieldLink RX2 24 "WarpDesk$Fit" "length" "I", Cond.methodLink RX2 28 Lib.Math.min.name, Cond.static Lib.Math.min.name, Cond.code Lib.Math.min.name Lib.Math.min.code 2 (some .int), Cond.constant RX2 93 (2147483647), Cond.fieldLink RX2 76 "WarpDesk$Fit" "cells" "I", Cond.fieldLink RX2 9 "WarpDesk$Fit" "left" "[I", Cond.fieldLink RX2 15 "WarpDesk$Fit" "right" "[I", Cond.methodLink RX2 65 yX2_costOf, Cond.instanceMethod yX2_costOf, Cond.selects RX2 yX2_costOf yX2_costOf, Cond.initialized RX2, Cond.methodLink RX2 98 yX2_leastAhead, Cond.instanceMethod yX2_leastAhead, Cond.selects RX2 yX2_leastAhead yX2_leastAhead, Cond.fieldLink RX2 18 "WarpDesk$Fit" "table" "[I"]
def wz_k234_X2_layRow : List Cond := .code yX2_layRow cX2_layRow 7 (some .int) :: (wo_k234_X2_layRow ++ (wsX20 ++ (wz_k235_X2_costOf ++ (wz_k236_X2_leastAhead ++ ([] : List Cond)))))
theorem zg_k234_X2_layRow : ∀ w ∈ wz_k234_X2_layRow, goodWord w = true := zg_cons rfl (zg_app (by decide +kernel) (zg_app zgU_wsX20 (zg_app zg_k235_X2_costOf (zg_app zg_k236_X2_leastAhead zg_nil))))
theorem zi_k234_X2_layRow : ∀ w ∈ wz_k234_X2_layRow, w ∈ lw_tbl := zi_cons zw_1004 (zi_app (zi_cons zw_344 (zi_cons zw_943 (zi_cons zw_920 (zi_cons zw_120 (zi_cons zw_921 (zi_cons zw_343 (zi_cons zw_942 (zi_cons zw_829 (zi_cons zw_830 (zi_cons zw_996 (zi_cons zw_347 (zi_cons zw_334 (zi_cons zw_337 (zi_cons zw_1005 (zi_cons zw_1007 (zi_cons zw_30 (zi_cons zw_112 (zi_cons zw_1009 (zi_cons zw_1011 (zi_cons zw_31 (zi_cons zw_339 zi_nil))))))))))))))))))))) (zi_app inX2 (zi_app zi_k235_X2_costOf (zi_app zi_k236_X2_leastAhead zi_nil))))
set_option maxHeartbeats 4000000 in
set_option maxRecDepth 100000 in
theorem k234_X2_layRow (l : Launch) (D : va_G) (zt : Nat × Nat × Nat × (Nat → Nat) × (Nat → Nat)) (q : Nat → Nat) (d : Nat → ClassId) (I : Nat → Int32) (A : Nat → Nat → Int32) (z1 : Int32) (hIv : IvX I A) (hp0 : 0 ≤ z1.toInt) (hp1 : z1.toInt ≤ 15) : GM l D zt (tyX d) yX2_layRow wz_k234_X2_layRow ({ frames := 1, cells := 0, slots := 0, locals := 24 } : Room) [.ref (q 38), .int z1] (wX q d I A) (fun v _ w' => ∃ (I' : Nat → Int32) (A' : Nat → Nat → Int32), Md [33] I I' ∧ Md [23] A A' ∧ IvX I' A' ∧ ∃ y0 : Int32, v = some (.int y0) ∧ w' = wX q d I' A') 0 0 := by
  refine GM.of (cc := cX2_layRow) (maxL := 7) (ret := (some .int)) (own := RX2) (lv := [(0, .ref (q 38)), (1, .int z1)]) (by decide) rfl rfl (Nat.le_of_ble_eq_true rfl) rfl (fun κ sz hk hR hN => ?_)
  have hin2 : ∀ w ∈ u_ws RX2 TX2 10, w ∈ wz_k234_X2_layRow := fun w h => (List.mem_cons_of_mem _ (List.mem_append_right _ (List.mem_append_left _ h)))
  refine g_iconst (v := 0) hk dX2_layRow_0 (by decide) ?_
  refine g_iload_n hk dX2_layRow_1 rfl ?_
  refine g_aload_n hk dX2_layRow_2 rfl ?_
  refine gX_i31 (v := (I 31)) hk hin2 (List.mem_cons_of_mem _ (List.mem_append_left _ (List.mem_of_getElem? (i := 0) rfl))) dX2_layRow_3 rfl ?_
  have f3760 := IvX_f31 hIv
  have b3761l := Int32.le_toInt (I 31)
  have b3761h := Int32.toInt_lt (I 31)
  refine g_isub hk dX2_layRow_6 ?_
  refine g_topi (fun y3762 ey3762 => ?_)
  have hy3762 : y3762.toInt = z1.toInt - (I 31).toInt := i32_sub ey3762 rfl rfl (by omega) (by omega)
  refine g_mmax hk (List.mem_cons_of_mem _ (List.mem_append_left _ (List.mem_of_getElem? (i := 1) rfl))) (List.mem_cons_of_mem _ (List.mem_append_left _ (List.mem_of_getElem? (i := 2) rfl))) (List.mem_cons_of_mem _ (List.mem_append_left _ (List.mem_of_getElem? (i := 3) rfl))) (List.mem_cons_of_mem _ (List.mem_append_left _ (List.mem_of_getElem? (i := 4) rfl))) (Nat.le_of_ble_eq_true rfl) (Nat.le_of_ble_eq_true rfl) (Nat.le_of_ble_eq_true rfl) (Nat.le_of_ble_eq_true rfl) dX2_layRow_7 ?_
  refine g_topi (fun y3763 ey3763 => ?_)
  have k3764 : (0 : Int32).toInt = 0 := rfl
  have hy3763 := i32_max ey3763
  refine g_istore_n (lv' := [(2, .int y3763), (0, .ref (q 38)), (1, .int z1)]) hk dX2_layRow_10 (by decide) rfl ?_
  refine g_aload_n hk dX2_layRow_11 rfl ?_
  refine gX_i30 (v := (I 30)) hk hin2 (List.mem_cons_of_mem _ (List.mem_append_left _ (List.mem_of_getElem? (i := 5) rfl))) dX2_layRow_12 rfl ?_
  have f3765 := IvX_f30 hIv
  refine g_iconst (v := 1) hk dX2_layRow_15 (by decide) ?_
  refine g_isub hk dX2_layRow_16 ?_
  refine g_topi (fun y3766 ey3766 => ?_)
  have hy3766 : y3766.toInt = (I 30).toInt - 1 := i32_sub ey3766 rfl rfl (by omega) (by omega)
  refine g_iload_n hk dX2_layRow_17 rfl ?_
  refine g_aload_n hk dX2_layRow_18 rfl ?_
  refine gX_i31 (v := (I 31)) hk hin2 (List.mem_cons_of_mem _ (List.mem_append_left _ (List.mem_of_getElem? (i := 0) rfl))) dX2_layRow_19 rfl ?_
  refine g_iadd hk dX2_layRow_22 ?_
  refine g_topi (fun y3767 ey3767 => ?_)
  have b3768l := Int32.le_toInt y3767
  have b3768h := Int32.toInt_lt y3767
  refine g_mmin hk (List.mem_cons_of_mem _ (List.mem_append_left _ (List.mem_of_getElem? (i := 6) rfl))) (List.mem_cons_of_mem _ (List.mem_append_left _ (List.mem_of_getElem? (i := 7) rfl))) (List.mem_cons_of_mem _ (List.mem_append_left _ (List.mem_of_getElem? (i := 3) rfl))) (List.mem_cons_of_mem _ (List.mem_append_left _ (List.mem_of_getElem? (i := 8) rfl))) (Nat.le_of_ble_eq_true rfl) (Nat.le_of_ble_eq_true rfl) (Nat.le_of_ble_eq_true rfl) (Nat.le_of_ble_eq_true rfl) dX2_layRow_23 ?_
  refine g_topi (fun y3769 ey3769 => ?_)
  have hy3769 := i32_min ey3769
  refine g_istore_n (lv' := [(3, .int y3769), (2, .int y3763), (0, .ref (q 38)), (1, .int z1)]) hk dX2_layRow_26 (by decide) rfl ?_
  refine g_ldc (v := 2147483647) hk (List.mem_cons_of_mem _ (List.mem_append_left _ (List.mem_of_getElem? (i := 9) rfl))) dX2_layRow_27 ?_
  refine g_istore (lv' := [(4, .int 2147483647), (3, .int y3769), (2, .int y3763), (0, .ref (q 38)), (1, .int z1)]) hk dX2_layRow_29 (by decide) rfl ?_
  refine g_iload_n hk dX2_layRow_31 rfl ?_
  refine g_istore (lv' := [(5, .int y3763), (4, .int 2147483647), (3, .int y3769), (2, .int y3763), (0, .ref (q 38)), (1, .int z1)]) hk dX2_layRow_32 (by decide) rfl ?_
  have lp3925 : ∀ (n3926 : Nat) (x3770 : Int32) (x3771 : Int32) (I3776 : Nat → Int32) (A3776 : Nat → Nat → Int32), (Md [] I I3776) → (Md [23] A A3776) → (IvX I3776 A3776) → (0 ≤ x3770.toInt) → (x3770.toInt ≤ 16) → (16 - x3770.toInt < (n3926 : Int)) → (0 < n3926) → GW κ 7 0 0 (wX q d I3776 A3776) 34 [(5, .int x3770), (4, .int x3771), (3, .int y3769), (2, .int y3763), (0, .ref (q 38)), (1, .int z1)] [] := by
    intro n3926
    induction n3926 with
    | zero =>
      intro x3770 x3771 I3776 A3776 hI3776 hA3776 hV3776 h3923 h3924 m3927 m3927z
      exact absurd m3927z (Nat.lt_irrefl 0)
    | succ n3926 ih3928 =>
      intro x3770 x3771 I3776 A3776 hI3776 hA3776 hV3776 h3923 h3924 m3927 m3927z
      refine g_iload hk dX2_layRow_34 rfl ?_
      refine g_iload_n hk dX2_layRow_36 rfl ?_
      have b3929l := Int32.le_toInt y3769
      have b3929h := Int32.toInt_lt y3769
      refine g_icmp_gt (tgt := 111) (a := x3770.toInt) (b := y3769.toInt) hk dX2_layRow_37 (by decide) rfl rfl (fun c3930 => ?_) (fun c3930 => ?_)
      · skip
        refine g_aload_n hk dX2_layRow_111 rfl ?_
        refine g_dup hk dX2_layRow_112 rfl ?_
        refine gX_i33 (v := (I 33)) hk hin2 (List.mem_cons_of_mem _ (List.mem_append_left _ (List.mem_of_getElem? (i := 10) rfl))) dX2_layRow_113 (hI3776 33 rfl) ?_
        refine g_iload_n hk dX2_layRow_116 rfl ?_
        refine g_iload_n hk dX2_layRow_117 rfl ?_
        refine g_isub hk dX2_layRow_118 ?_
        refine g_topi (fun y3931 ey3931 => ?_)
        have hy3931 := i32_sub0 ey3931
        refine g_iconst (v := 1) hk dX2_layRow_119 (by decide) ?_
        have b3932l := Int32.le_toInt y3931
        have b3932h := Int32.toInt_lt y3931
        refine g_iadd hk dX2_layRow_120 ?_
        refine g_topi (fun y3933 ey3933 => ?_)
        have b3934l := Int32.le_toInt (I 33)
        have b3934h := Int32.toInt_lt (I 33)
        have b3935l := Int32.le_toInt y3933
        have b3935h := Int32.toInt_lt y3933
        refine g_iadd hk dX2_layRow_121 ?_
        refine g_topi (fun y3936 ey3936 => ?_)
        refine pX_i33 hk hin2 (List.mem_cons_of_mem _ (List.mem_append_left _ (List.mem_of_getElem? (i := 10) rfl))) dX2_layRow_122 ?_
        refine g_iload hk dX2_layRow_125 rfl ?_
        have b3937l := Int32.le_toInt x3771
        have b3937h := Int32.toInt_lt x3771
        exact g_iret hk hR rfl ⟨(upd I3776 33 y3936), A3776, (show Md [33] I (upd I3776 33 y3936) from (Md.up (Md.tr Md.rf hI3776 rfl) rfl)), (show Md [23] A A3776 from (Md.tr Md.rf hA3776 rfl)), ⟨(IvX_f0 (I := I3776) (A := A3776) hV3776), (IvX_f18 (I := I3776) (A := A3776) hV3776), (IvX_f30 (I := I3776) (A := A3776) hV3776), (IvX_f31 (I := I3776) (A := A3776) hV3776), (IvX_a4 (I := I3776) (A := A3776) hV3776), (IvX_a9 (I := I3776) (A := A3776) hV3776), trivial⟩, x3771, rfl, rfl⟩ dX2_layRow_127
      · skip
        refine g_aload_n hk dX2_layRow_40 rfl ?_
        refine g_aload_n hk dX2_layRow_41 rfl ?_
        refine gX_r38_0 hk hin2 (List.mem_cons_of_mem _ (List.mem_append_left _ (List.mem_of_getElem? (i := 11) rfl))) dX2_layRow_42 ?_
        refine g_iload_n hk dX2_layRow_45 rfl ?_
        refine lX_21 (v := (A 21 z1.toNatClampNeg)) hk (vp_in_iff.mpr ⟨by omega, by omega⟩) (congrFun (hA3776 21 rfl) _) dX2_layRow_46 ?_
        refine g_aload_n hk dX2_layRow_47 rfl ?_
        refine gX_r38_1 hk hin2 (List.mem_cons_of_mem _ (List.mem_append_left _ (List.mem_of_getElem? (i := 12) rfl))) dX2_layRow_48 ?_
        refine g_iload hk dX2_layRow_51 rfl ?_
        refine lX_22 (v := (A 22 x3770.toNatClampNeg)) hk (vp_in_iff.mpr ⟨by omega, by omega⟩) (congrFun (hA3776 22 rfl) _) dX2_layRow_53 ?_
        refine g_callV (n := 2) hk (k235_X2_costOf l D zt q d I3776 A3776 (A 21 z1.toNatClampNeg) (A 22 x3770.toNatClampNeg) hV3776) (SP.same _) (fun _ h => h) (gi_V (List.mem_cons_of_mem _ (List.mem_append_left _ (List.mem_of_getElem? (i := 13) rfl))) (List.mem_cons_of_mem _ (List.mem_append_left _ (List.mem_of_getElem? (i := 14) rfl))) (List.mem_cons_of_mem _ (List.mem_append_left _ (List.mem_of_getElem? (i := 15) rfl))) (List.mem_cons_of_mem _ (List.mem_append_left _ (List.mem_of_getElem? (i := 16) rfl))) (gi_sub (fun w h => (List.mem_cons_of_mem _ (List.mem_append_right _ (List.mem_append_right _ (List.mem_append_left _ h))))) zg_k235_X2_costOf)) rfl rfl rfl (by decide +kernel) ⟨Nat.le_of_ble_eq_true rfl, Nat.le_of_ble_eq_true rfl⟩ 38 rfl rfl rfl rfl (Nat.le_of_ble_eq_true rfl) ⟨Nat.le_of_ble_eq_true rfl, Nat.le_of_ble_eq_true rfl⟩ dX2_layRow_54 (fun v ty' w' hp hk' => ?_)
        obtain ⟨y3938, rfl, rfl⟩ := hp
        show GW κ 7 0 0 (wX q d I3776 A3776) 57 [(5, .int x3770), (4, .int x3771), (3, .int y3769), (2, .int y3763), (0, .ref (q 38)), (1, .int z1)] [.int y3938]
        refine g_istore (lv' := [(6, .int y3938), (5, .int x3770), (4, .int x3771), (3, .int y3769), (2, .int y3763), (0, .ref (q 38)), (1, .int z1)]) hk dX2_layRow_57 (by decide) rfl ?_
        refine g_iload_n hk dX2_layRow_59 rfl ?_
        refine g_if_gt (tgt := 68) (a := z1.toInt) hk dX2_layRow_60 (by decide) rfl (fun c3939 => ?_) (fun c3939 => ?_)
        · skip
          refine g_iload hk dX2_layRow_68 rfl ?_
          refine g_aload_n hk dX2_layRow_70 rfl ?_
          refine g_iload_n hk dX2_layRow_71 rfl ?_
          refine g_iload hk dX2_layRow_72 rfl ?_
          refine g_callV (n := 2) hk (k236_X2_leastAhead l D zt q d I3776 A3776 z1 x3770 hV3776 (by omega) (by omega) (by omega) (by omega)) (SP.same _) (fun _ h => h) (gi_V (List.mem_cons_of_mem _ (List.mem_append_left _ (List.mem_of_getElem? (i := 17) rfl))) (List.mem_cons_of_mem _ (List.mem_append_left _ (List.mem_of_getElem? (i := 18) rfl))) (List.mem_cons_of_mem _ (List.mem_append_left _ (List.mem_of_getElem? (i := 19) rfl))) (List.mem_cons_of_mem _ (List.mem_append_left _ (List.mem_of_getElem? (i := 16) rfl))) (gi_sub (fun w h => (List.mem_cons_of_mem _ (List.mem_append_right _ (List.mem_append_right _ (List.mem_append_right _ (List.mem_append_left _ h)))))) zg_k236_X2_leastAhead)) rfl rfl rfl (by decide +kernel) ⟨Nat.le_of_ble_eq_true rfl, Nat.le_of_ble_eq_true rfl⟩ 38 rfl rfl rfl rfl (Nat.le_of_ble_eq_true rfl) ⟨Nat.le_of_ble_eq_true rfl, Nat.le_of_ble_eq_true rfl⟩ dX2_layRow_74 (fun v ty' w' hp hk' => ?_)
          obtain ⟨y3940, rfl, rfl⟩ := hp
          show GW κ 7 0 0 (wX q d I3776 A3776) 77 [(6, .int y3938), (5, .int x3770), (4, .int x3771), (3, .int y3769), (2, .int y3763), (0, .ref (q 38)), (1, .int z1)] [.int y3940, .int y3938]
          have b3941l := Int32.le_toInt y3938
          have b3941h := Int32.toInt_lt y3938
          have b3942l := Int32.le_toInt y3940
          have b3942h := Int32.toInt_lt y3940
          refine g_iadd hk dX2_layRow_77 ?_
          refine g_topi (fun y3943 ey3943 => ?_)
          refine g_istore (lv' := [(6, .int y3943), (5, .int x3770), (4, .int x3771), (3, .int y3769), (2, .int y3763), (0, .ref (q 38)), (1, .int z1)]) hk dX2_layRow_78 (by decide) rfl ?_
          refine g_aload_n hk dX2_layRow_80 rfl ?_
          refine gX_r38_2 hk hin2 (List.mem_cons_of_mem _ (List.mem_append_left _ (List.mem_of_getElem? (i := 20) rfl))) dX2_layRow_81 ?_
          refine g_iload_n hk dX2_layRow_84 rfl ?_
          refine g_bipush (v := 16) hk dX2_layRow_85 (by decide) ?_
          refine g_imul hk dX2_layRow_87 ?_
          refine g_topi (fun y3944 ey3944 => ?_)
          have hy3944 : y3944.toInt = z1.toInt * 16 := i32_mul ey3944 rfl rfl (by omega) (by omega)
          refine g_iload hk dX2_layRow_88 rfl ?_
          refine g_iadd hk dX2_layRow_90 ?_
          refine g_topi (fun y3945 ey3945 => ?_)
          have hy3945 : y3945.toInt = y3944.toInt + x3770.toInt := i32_add ey3945 rfl rfl (by omega) (by omega)
          refine g_iload hk dX2_layRow_91 rfl ?_
          refine sX_23 (j := y3945.toNatClampNeg) hk (vp_in_iff.mpr ⟨by omega, by omega⟩) rfl dX2_layRow_93 ?_
          refine g_iload hk dX2_layRow_94 rfl ?_
          refine g_iload hk dX2_layRow_96 rfl ?_
          have b3946l := Int32.le_toInt y3943
          have b3946h := Int32.toInt_lt y3943
          have b3947l := Int32.le_toInt x3771
          have b3947h := Int32.toInt_lt x3771
          refine g_icmp_ge (tgt := 105) (a := y3943.toInt) (b := x3771.toInt) hk dX2_layRow_98 (by decide) rfl rfl (fun c3948 => ?_) (fun c3948 => ?_)
          · skip
            obtain ⟨y3949, ey3949⟩ : ∃ y : Int32, y = x3770 + Int32.ofInt 1 := ⟨_, rfl⟩
            have hy3949 : y3949.toInt = x3770.toInt + 1 := i32_add ey3949 rfl (by decide) (by omega) (by omega)
            refine g_iinc (v := y3949) (lv' := [(5, .int y3949), (6, .int y3943), (4, .int x3771), (3, .int y3769), (2, .int y3763), (0, .ref (q 38)), (1, .int z1)]) hk 1 dX2_layRow_105 rfl ey3949.symm (by decide) rfl ?_
            refine g_goto (tgt := 34) hk dX2_layRow_108 (by decide) ?_
            exact g_lv (List.forall_mem_cons.mpr ⟨List.mem_of_getElem? (i := 0) rfl, (List.forall_mem_cons.mpr ⟨List.mem_of_getElem? (i := 2) rfl, (List.forall_mem_cons.mpr ⟨List.mem_of_getElem? (i := 3) rfl, (List.forall_mem_cons.mpr ⟨List.mem_of_getElem? (i := 4) rfl, (List.forall_mem_cons.mpr ⟨List.mem_of_getElem? (i := 5) rfl, (List.forall_mem_cons.mpr ⟨List.mem_of_getElem? (i := 6) rfl, (fun _ h => absurd h List.not_mem_nil)⟩)⟩)⟩)⟩)⟩)⟩) (ih3928 y3949 x3771 I3776 (up3 A3776 23 (y3945.toNatClampNeg) y3943) (show Md [] I I3776 from Md.tr hI3776 (show Md [] I3776 I3776 from Md.rf) rfl) (show Md [23] A (up3 A3776 23 (y3945.toNatClampNeg) y3943) from Md.tr hA3776 (show Md [23] A3776 (up3 A3776 23 (y3945.toNatClampNeg) y3943) from (Md.up3 Md.rf rfl)) rfl) ⟨(IvX_f0 (I := I3776) (A := A3776) hV3776), (IvX_f18 (I := I3776) (A := A3776) hV3776), (IvX_f30 (I := I3776) (A := A3776) hV3776), (IvX_f31 (I := I3776) (A := A3776) hV3776), (IvX_a4 (I := I3776) (A := A3776) hV3776), (IvX_a9 (I := I3776) (A := A3776) hV3776), trivial⟩ (by omega) (by omega) (by omega) (by omega))
          · skip
            refine g_iload hk dX2_layRow_101 rfl ?_
            refine g_istore (lv' := [(4, .int y3943), (6, .int y3943), (5, .int x3770), (3, .int y3769), (2, .int y3763), (0, .ref (q 38)), (1, .int z1)]) hk dX2_layRow_103 (by decide) rfl ?_
            obtain ⟨y3950, ey3950⟩ : ∃ y : Int32, y = x3770 + Int32.ofInt 1 := ⟨_, rfl⟩
            have hy3950 : y3950.toInt = x3770.toInt + 1 := i32_add ey3950 rfl (by decide) (by omega) (by omega)
            refine g_iinc (v := y3950) (lv' := [(5, .int y3950), (4, .int y3943), (6, .int y3943), (3, .int y3769), (2, .int y3763), (0, .ref (q 38)), (1, .int z1)]) hk 2 dX2_layRow_105 rfl ey3950.symm (by decide) rfl ?_
            refine g_goto (tgt := 34) hk dX2_layRow_108 (by decide) ?_
            exact g_lv (List.forall_mem_cons.mpr ⟨List.mem_of_getElem? (i := 0) rfl, (List.forall_mem_cons.mpr ⟨List.mem_of_getElem? (i := 1) rfl, (List.forall_mem_cons.mpr ⟨List.mem_of_getElem? (i := 3) rfl, (List.forall_mem_cons.mpr ⟨List.mem_of_getElem? (i := 4) rfl, (List.forall_mem_cons.mpr ⟨List.mem_of_getElem? (i := 5) rfl, (List.forall_mem_cons.mpr ⟨List.mem_of_getElem? (i := 6) rfl, (fun _ h => absurd h List.not_mem_nil)⟩)⟩)⟩)⟩)⟩)⟩) (ih3928 y3950 y3943 I3776 (up3 A3776 23 (y3945.toNatClampNeg) y3943) (show Md [] I I3776 from Md.tr hI3776 (show Md [] I3776 I3776 from Md.rf) rfl) (show Md [23] A (up3 A3776 23 (y3945.toNatClampNeg) y3943) from Md.tr hA3776 (show Md [23] A3776 (up3 A3776 23 (y3945.toNatClampNeg) y3943) from (Md.up3 Md.rf rfl)) rfl) ⟨(IvX_f0 (I := I3776) (A := A3776) hV3776), (IvX_f18 (I := I3776) (A := A3776) hV3776), (IvX_f30 (I := I3776) (A := A3776) hV3776), (IvX_f31 (I := I3776) (A := A3776) hV3776), (IvX_a4 (I := I3776) (A := A3776) hV3776), (IvX_a9 (I := I3776) (A := A3776) hV3776), trivial⟩ (by omega) (by omega) (by omega) (by omega))
        · skip
          refine g_iload hk dX2_layRow_63 rfl ?_
          refine g_if_le (tgt := 80) (a := x3770.toInt) hk dX2_layRow_65 (by decide) rfl (fun c3951 => ?_) (fun c3951 => ?_)
          · skip
            refine g_aload_n hk dX2_layRow_80 rfl ?_
            refine gX_r38_2 hk hin2 (List.mem_cons_of_mem _ (List.mem_append_left _ (List.mem_of_getElem? (i := 20) rfl))) dX2_layRow_81 ?_
            refine g_iload_n hk dX2_layRow_84 rfl ?_
            refine g_bipush (v := 16) hk dX2_layRow_85 (by decide) ?_
            refine g_imul hk dX2_layRow_87 ?_
            refine g_topi (fun y3952 ey3952 => ?_)
            have hy3952 : y3952.toInt = z1.toInt * 16 := i32_mul ey3952 rfl rfl (by omega) (by omega)
            refine g_iload hk dX2_layRow_88 rfl ?_
            refine g_iadd hk dX2_layRow_90 ?_
            refine g_topi (fun y3953 ey3953 => ?_)
            have hy3953 : y3953.toInt = y3952.toInt + x3770.toInt := i32_add ey3953 rfl rfl (by omega) (by omega)
            refine g_iload hk dX2_layRow_91 rfl ?_
            refine sX_23 (j := y3953.toNatClampNeg) hk (vp_in_iff.mpr ⟨by omega, by omega⟩) rfl dX2_layRow_93 ?_
            refine g_iload hk dX2_layRow_94 rfl ?_
            refine g_iload hk dX2_layRow_96 rfl ?_
            have b3954l := Int32.le_toInt y3938
            have b3954h := Int32.toInt_lt y3938
            have b3955l := Int32.le_toInt x3771
            have b3955h := Int32.toInt_lt x3771
            refine g_icmp_ge (tgt := 105) (a := y3938.toInt) (b := x3771.toInt) hk dX2_layRow_98 (by decide) rfl rfl (fun c3956 => ?_) (fun c3956 => ?_)
            · skip
              obtain ⟨y3957, ey3957⟩ : ∃ y : Int32, y = x3770 + Int32.ofInt 1 := ⟨_, rfl⟩
              have hy3957 : y3957.toInt = x3770.toInt + 1 := i32_add ey3957 rfl (by decide) (by omega) (by omega)
              refine g_iinc (v := y3957) (lv' := [(5, .int y3957), (6, .int y3938), (4, .int x3771), (3, .int y3769), (2, .int y3763), (0, .ref (q 38)), (1, .int z1)]) hk 1 dX2_layRow_105 rfl ey3957.symm (by decide) rfl ?_
              refine g_goto (tgt := 34) hk dX2_layRow_108 (by decide) ?_
              exact g_lv (List.forall_mem_cons.mpr ⟨List.mem_of_getElem? (i := 0) rfl, (List.forall_mem_cons.mpr ⟨List.mem_of_getElem? (i := 2) rfl, (List.forall_mem_cons.mpr ⟨List.mem_of_getElem? (i := 3) rfl, (List.forall_mem_cons.mpr ⟨List.mem_of_getElem? (i := 4) rfl, (List.forall_mem_cons.mpr ⟨List.mem_of_getElem? (i := 5) rfl, (List.forall_mem_cons.mpr ⟨List.mem_of_getElem? (i := 6) rfl, (fun _ h => absurd h List.not_mem_nil)⟩)⟩)⟩)⟩)⟩)⟩) (ih3928 y3957 x3771 I3776 (up3 A3776 23 (y3953.toNatClampNeg) y3938) (show Md [] I I3776 from Md.tr hI3776 (show Md [] I3776 I3776 from Md.rf) rfl) (show Md [23] A (up3 A3776 23 (y3953.toNatClampNeg) y3938) from Md.tr hA3776 (show Md [23] A3776 (up3 A3776 23 (y3953.toNatClampNeg) y3938) from (Md.up3 Md.rf rfl)) rfl) ⟨(IvX_f0 (I := I3776) (A := A3776) hV3776), (IvX_f18 (I := I3776) (A := A3776) hV3776), (IvX_f30 (I := I3776) (A := A3776) hV3776), (IvX_f31 (I := I3776) (A := A3776) hV3776), (IvX_a4 (I := I3776) (A := A3776) hV3776), (IvX_a9 (I := I3776) (A := A3776) hV3776), trivial⟩ (by omega) (by omega) (by omega) (by omega))
            · skip
              refine g_iload hk dX2_layRow_101 rfl ?_
              refine g_istore (lv' := [(4, .int y3938), (6, .int y3938), (5, .int x3770), (3, .int y3769), (2, .int y3763), (0, .ref (q 38)), (1, .int z1)]) hk dX2_layRow_103 (by decide) rfl ?_
              obtain ⟨y3958, ey3958⟩ : ∃ y : Int32, y = x3770 + Int32.ofInt 1 := ⟨_, rfl⟩
              have hy3958 : y3958.toInt = x3770.toInt + 1 := i32_add ey3958 rfl (by decide) (by omega) (by omega)
              refine g_iinc (v := y3958) (lv' := [(5, .int y3958), (4, .int y3938), (6, .int y3938), (3, .int y3769), (2, .int y3763), (0, .ref (q 38)), (1, .int z1)]) hk 2 dX2_layRow_105 rfl ey3958.symm (by decide) rfl ?_
              refine g_goto (tgt := 34) hk dX2_layRow_108 (by decide) ?_
              exact g_lv (List.forall_mem_cons.mpr ⟨List.mem_of_getElem? (i := 0) rfl, (List.forall_mem_cons.mpr ⟨List.mem_of_getElem? (i := 1) rfl, (List.forall_mem_cons.mpr ⟨List.mem_of_getElem? (i := 3) rfl, (List.forall_mem_cons.mpr ⟨List.mem_of_getElem? (i := 4) rfl, (List.forall_mem_cons.mpr ⟨List.mem_of_getElem? (i := 5) rfl, (List.forall_mem_cons.mpr ⟨List.mem_of_getElem? (i := 6) rfl, (fun _ h => absurd h List.not_mem_nil)⟩)⟩)⟩)⟩)⟩)⟩) (ih3928 y3958 y3938 I3776 (up3 A3776 23 (y3953.toNatClampNeg) y3938) (show Md [] I I3776 from Md.tr hI3776 (show Md [] I3776 I3776 from Md.rf) rfl) (show Md [23] A (up3 A3776 23 (y3953.toNatClampNeg) y3938) from Md.tr hA3776 (show Md [23] A3776 (up3 A3776 23 (y3953.toNatClampNeg) y3938) from (Md.up3 Md.rf rfl)) rfl) ⟨(IvX_f0 (I := I3776) (A := A3776) hV3776), (IvX_f18 (I := I3776) (A := A3776) hV3776), (IvX_f30 (I := I3776) (A := A3776) hV3776), (IvX_f31 (I := I3776) (A := A3776) hV3776), (IvX_a4 (I := I3776) (A := A3776) hV3776), (IvX_a9 (I := I3776) (A := A3776) hV3776), trivial⟩ (by omega) (by omega) (by omega) (by omega))
          · skip
            refine g_iload hk dX2_layRow_68 rfl ?_
            refine g_aload_n hk dX2_layRow_70 rfl ?_
            refine g_iload_n hk dX2_layRow_71 rfl ?_
            refine g_iload hk dX2_layRow_72 rfl ?_
            refine g_callV (n := 2) hk (k236_X2_leastAhead l D zt q d I3776 A3776 z1 x3770 hV3776 (by omega) (by omega) (by omega) (by omega)) (SP.same _) (fun _ h => h) (gi_V (List.mem_cons_of_mem _ (List.mem_append_left _ (List.mem_of_getElem? (i := 17) rfl))) (List.mem_cons_of_mem _ (List.mem_append_left _ (List.mem_of_getElem? (i := 18) rfl))) (List.mem_cons_of_mem _ (List.mem_append_left _ (List.mem_of_getElem? (i := 19) rfl))) (List.mem_cons_of_mem _ (List.mem_append_left _ (List.mem_of_getElem? (i := 16) rfl))) (gi_sub (fun w h => (List.mem_cons_of_mem _ (List.mem_append_right _ (List.mem_append_right _ (List.mem_append_right _ (List.mem_append_left _ h)))))) zg_k236_X2_leastAhead)) rfl rfl rfl (by decide +kernel) ⟨Nat.le_of_ble_eq_true rfl, Nat.le_of_ble_eq_true rfl⟩ 38 rfl rfl rfl rfl (Nat.le_of_ble_eq_true rfl) ⟨Nat.le_of_ble_eq_true rfl, Nat.le_of_ble_eq_true rfl⟩ dX2_layRow_74 (fun v ty' w' hp hk' => ?_)
            obtain ⟨y3959, rfl, rfl⟩ := hp
            show GW κ 7 0 0 (wX q d I3776 A3776) 77 [(6, .int y3938), (5, .int x3770), (4, .int x3771), (3, .int y3769), (2, .int y3763), (0, .ref (q 38)), (1, .int z1)] [.int y3959, .int y3938]
            have b3960l := Int32.le_toInt y3938
            have b3960h := Int32.toInt_lt y3938
            have b3961l := Int32.le_toInt y3959
            have b3961h := Int32.toInt_lt y3959
            refine g_iadd hk dX2_layRow_77 ?_
            refine g_topi (fun y3962 ey3962 => ?_)
            refine g_istore (lv' := [(6, .int y3962), (5, .int x3770), (4, .int x3771), (3, .int y3769), (2, .int y3763), (0, .ref (q 38)), (1, .int z1)]) hk dX2_layRow_78 (by decide) rfl ?_
            refine g_aload_n hk dX2_layRow_80 rfl ?_
            refine gX_r38_2 hk hin2 (List.mem_cons_of_mem _ (List.mem_append_left _ (List.mem_of_getElem? (i := 20) rfl))) dX2_layRow_81 ?_
            refine g_iload_n hk dX2_layRow_84 rfl ?_
            refine g_bipush (v := 16) hk dX2_layRow_85 (by decide) ?_
            refine g_imul hk dX2_layRow_87 ?_
            refine g_topi (fun y3963 ey3963 => ?_)
            have hy3963 : y3963.toInt = z1.toInt * 16 := i32_mul ey3963 rfl rfl (by omega) (by omega)
            refine g_iload hk dX2_layRow_88 rfl ?_
            refine g_iadd hk dX2_layRow_90 ?_
            refine g_topi (fun y3964 ey3964 => ?_)
            have hy3964 : y3964.toInt = y3963.toInt + x3770.toInt := i32_add ey3964 rfl rfl (by omega) (by omega)
            refine g_iload hk dX2_layRow_91 rfl ?_
            refine sX_23 (j := y3964.toNatClampNeg) hk (vp_in_iff.mpr ⟨by omega, by omega⟩) rfl dX2_layRow_93 ?_
            refine g_iload hk dX2_layRow_94 rfl ?_
            refine g_iload hk dX2_layRow_96 rfl ?_
            have b3965l := Int32.le_toInt y3962
            have b3965h := Int32.toInt_lt y3962
            have b3966l := Int32.le_toInt x3771
            have b3966h := Int32.toInt_lt x3771
            refine g_icmp_ge (tgt := 105) (a := y3962.toInt) (b := x3771.toInt) hk dX2_layRow_98 (by decide) rfl rfl (fun c3967 => ?_) (fun c3967 => ?_)
            · skip
              obtain ⟨y3968, ey3968⟩ : ∃ y : Int32, y = x3770 + Int32.ofInt 1 := ⟨_, rfl⟩
              have hy3968 : y3968.toInt = x3770.toInt + 1 := i32_add ey3968 rfl (by decide) (by omega) (by omega)
              refine g_iinc (v := y3968) (lv' := [(5, .int y3968), (6, .int y3962), (4, .int x3771), (3, .int y3769), (2, .int y3763), (0, .ref (q 38)), (1, .int z1)]) hk 1 dX2_layRow_105 rfl ey3968.symm (by decide) rfl ?_
              refine g_goto (tgt := 34) hk dX2_layRow_108 (by decide) ?_
              exact g_lv (List.forall_mem_cons.mpr ⟨List.mem_of_getElem? (i := 0) rfl, (List.forall_mem_cons.mpr ⟨List.mem_of_getElem? (i := 2) rfl, (List.forall_mem_cons.mpr ⟨List.mem_of_getElem? (i := 3) rfl, (List.forall_mem_cons.mpr ⟨List.mem_of_getElem? (i := 4) rfl, (List.forall_mem_cons.mpr ⟨List.mem_of_getElem? (i := 5) rfl, (List.forall_mem_cons.mpr ⟨List.mem_of_getElem? (i := 6) rfl, (fun _ h => absurd h List.not_mem_nil)⟩)⟩)⟩)⟩)⟩)⟩) (ih3928 y3968 x3771 I3776 (up3 A3776 23 (y3964.toNatClampNeg) y3962) (show Md [] I I3776 from Md.tr hI3776 (show Md [] I3776 I3776 from Md.rf) rfl) (show Md [23] A (up3 A3776 23 (y3964.toNatClampNeg) y3962) from Md.tr hA3776 (show Md [23] A3776 (up3 A3776 23 (y3964.toNatClampNeg) y3962) from (Md.up3 Md.rf rfl)) rfl) ⟨(IvX_f0 (I := I3776) (A := A3776) hV3776), (IvX_f18 (I := I3776) (A := A3776) hV3776), (IvX_f30 (I := I3776) (A := A3776) hV3776), (IvX_f31 (I := I3776) (A := A3776) hV3776), (IvX_a4 (I := I3776) (A := A3776) hV3776), (IvX_a9 (I := I3776) (A := A3776) hV3776), trivial⟩ (by omega) (by omega) (by omega) (by omega))
            · skip
              refine g_iload hk dX2_layRow_101 rfl ?_
              refine g_istore (lv' := [(4, .int y3962), (6, .int y3962), (5, .int x3770), (3, .int y3769), (2, .int y3763), (0, .ref (q 38)), (1, .int z1)]) hk dX2_layRow_103 (by decide) rfl ?_
              obtain ⟨y3969, ey3969⟩ : ∃ y : Int32, y = x3770 + Int32.ofInt 1 := ⟨_, rfl⟩
              have hy3969 : y3969.toInt = x3770.toInt + 1 := i32_add ey3969 rfl (by decide) (by omega) (by omega)
              refine g_iinc (v := y3969) (lv' := [(5, .int y3969), (4, .int y3962), (6, .int y3962), (3, .int y3769), (2, .int y3763), (0, .ref (q 38)), (1, .int z1)]) hk 2 dX2_layRow_105 rfl ey3969.symm (by decide) rfl ?_
              refine g_goto (tgt := 34) hk dX2_layRow_108 (by decide) ?_
              exact g_lv (List.forall_mem_cons.mpr ⟨List.mem_of_getElem? (i := 0) rfl, (List.forall_mem_cons.mpr ⟨List.mem_of_getElem? (i := 1) rfl, (List.forall_mem_cons.mpr ⟨List.mem_of_getElem? (i := 3) rfl, (List.forall_mem_cons.mpr ⟨List.mem_of_getElem? (i := 4) rfl, (List.forall_mem_cons.mpr ⟨List.mem_of_getElem? (i := 5) rfl, (List.forall_mem_cons.mpr ⟨List.mem_of_getElem? (i := 6) rfl, (fun _ h => absurd h List.not_mem_nil)⟩)⟩)⟩)⟩)⟩)⟩) (ih3928 y3969 y3962 I3776 (up3 A3776 23 (y3964.toNatClampNeg) y3962) (show Md [] I I3776 from Md.tr hI3776 (show Md [] I3776 I3776 from Md.rf) rfl) (show Md [23] A (up3 A3776 23 (y3964.toNatClampNeg) y3962) from Md.tr hA3776 (show Md [23] A3776 (up3 A3776 23 (y3964.toNatClampNeg) y3962) from (Md.up3 Md.rf rfl)) rfl) ⟨(IvX_f0 (I := I3776) (A := A3776) hV3776), (IvX_f18 (I := I3776) (A := A3776) hV3776), (IvX_f30 (I := I3776) (A := A3776) hV3776), (IvX_f31 (I := I3776) (A := A3776) hV3776), (IvX_a4 (I := I3776) (A := A3776) hV3776), (IvX_a9 (I := I3776) (A := A3776) hV3776), trivial⟩ (by omega) (by omega) (by omega) (by omega))
  have k3971 : (2147483647 : Int32).toInt = 2147483647 := rfl
  obtain ⟨n3970, n3970a, n3970b⟩ : ∃ n : Nat, 16 - y3763.toInt < (n : Int) ∧ 0 < n := ⟨((16 - y3763.toInt : Int)).toNat + 1, by omega, by omega⟩
  exact lp3925 n3970 y3763 2147483647 I A Md.rf Md.rf hIv (by omega) (by omega) n3970a n3970b
def wo_k233_X2_layTable : List Cond := [Cond.fieldLink RX2 76 "WarpDesk$Fit" "cells" "I", Cond.fieldLink RX2 79 "WarpDesk$Fit" "brokenRow" "I", Cond.fieldLink RX2 24 "WarpDesk$Fit" "length" "I", Cond.methodLink RX2 94 yX2_layRow, Cond.instanceMethod yX2_layRow, Cond.selects RX2 yX2_layRow yX2_layRow, Cond.initialized RX2]
def wz_k233_X2_layTable : List Cond := .code yX2_layTable cX2_layTable 3 none :: (wo_k233_X2_layTable ++ (wsX20 ++ (wz_k234_X2_layRow ++ ([] : List Cond))))
theorem zg_k233_X2_layTable : ∀ w ∈ wz_k233_X2_layTable, goodWord w = true := zg_cons rfl (zg_app (by decide +kernel) (zg_app zgU_wsX20 (zg_app zg_k234_X2_layRow zg_nil)))
theorem zi_k233_X2_layTable : ∀ w ∈ wz_k233_X2_layTable, w ∈ lw_tbl := zi_cons zw_1000 (zi_app (zi_cons zw_347 (zi_cons zw_350 (zi_cons zw_343 (zi_cons zw_1001 (zi_cons zw_1003 (zi_cons zw_29 (zi_cons zw_112 zi_nil))))))) (zi_app inX2 (zi_app zi_k234_X2_layRow zi_nil)))
set_option maxHeartbeats 4000000 in
set_option maxRecDepth 100000 in
theorem k233_X2_layTable (l : Launch) (D : va_G) (zt : Nat × Nat × Nat × (Nat → Nat) × (Nat → Nat)) (q : Nat → Nat) (d : Nat → ClassId) (I : Nat → Int32) (A : Nat → Nat → Int32) (z1 : Int32) (hIv : IvX I A) : GM l D zt (tyX d) yX2_layTable wz_k233_X2_layTable ({ frames := 2, cells := 0, slots := 0, locals := 50 } : Room) [.ref (q 38), .int z1] (wX q d I A) (fun v _ w' => ∃ (I' : Nat → Int32) (A' : Nat → Nat → Int32), Md [33, 34] I I' ∧ Md [23] A A' ∧ IvX I' A' ∧ v = none ∧ w' = wX q d I' A') 0 0 := by
  refine GM.of (cc := cX2_layTable) (maxL := 3) (ret := none) (own := RX2) (lv := [(0, .ref (q 38)), (1, .int z1)]) (by decide) rfl rfl (Nat.le_of_ble_eq_true rfl) rfl (fun κ sz hk hR hN => ?_)
  have hin2 : ∀ w ∈ u_ws RX2 TX2 10, w ∈ wz_k233_X2_layTable := fun w h => (List.mem_cons_of_mem _ (List.mem_append_right _ (List.mem_append_left _ h)))
  refine g_aload_n hk dX2_layTable_0 rfl ?_
  refine g_iconst (v := 0) hk dX2_layTable_1 (by decide) ?_
  refine pX_i33 hk hin2 (List.mem_cons_of_mem _ (List.mem_append_left _ (List.mem_of_getElem? (i := 0) rfl))) dX2_layTable_2 ?_
  refine g_aload_n hk dX2_layTable_5 rfl ?_
  refine g_bipush (v := (-2)) hk dX2_layTable_6 (by decide) ?_
  refine pX_i34 hk hin2 (List.mem_cons_of_mem _ (List.mem_append_left _ (List.mem_of_getElem? (i := 1) rfl))) dX2_layTable_8 ?_
  refine g_iconst (v := 0) hk dX2_layTable_11 (by decide) ?_
  refine g_istore_n (lv' := [(2, .int 0), (0, .ref (q 38)), (1, .int z1)]) hk dX2_layTable_12 (by decide) rfl ?_
  have lp4005 : ∀ (n4006 : Nat) (x3755 : Int32) (I3758 : Nat → Int32) (A3758 : Nat → Nat → Int32), (Md [33, 34] (upd (upd I 33 0) 34 (-2)) I3758) → (Md [23] A A3758) → (IvX I3758 A3758) → (0 ≤ x3755.toInt) → (x3755.toInt ≤ 16) → (17 - x3755.toInt < (n4006 : Int)) → (0 < n4006) → GW κ 3 0 0 (wX q d I3758 A3758) 13 [(2, .int x3755), (0, .ref (q 38)), (1, .int z1)] [] := by
    intro n4006
    induction n4006 with
    | zero =>
      intro x3755 I3758 A3758 hI3758 hA3758 hV3758 h4003 h4004 m4007 m4007z
      exact absurd m4007z (Nat.lt_irrefl 0)
    | succ n4006 ih4008 =>
      intro x3755 I3758 A3758 hI3758 hA3758 hV3758 h4003 h4004 m4007 m4007z
      refine g_iload_n hk dX2_layTable_13 rfl ?_
      refine g_aload_n hk dX2_layTable_14 rfl ?_
      refine gX_i30 (v := (I 30)) hk hin2 (List.mem_cons_of_mem _ (List.mem_append_left _ (List.mem_of_getElem? (i := 2) rfl))) dX2_layTable_15 (hI3758 30 rfl) ?_
      have f4009 := IvX_f30 hIv
      refine g_icmp_ge (tgt := 42) (a := x3755.toInt) (b := (I 30).toInt) hk dX2_layTable_18 (by decide) rfl rfl (fun c4010 => ?_) (fun c4010 => ?_)
      · skip
        exact g_vret hk hR ⟨I3758, A3758, (show Md [33, 34] I I3758 from (Md.tr (Md.up (Md.up Md.rf rfl) rfl) hI3758 rfl)), (show Md [23] A A3758 from (Md.tr Md.rf hA3758 rfl)), hV3758, rfl, rfl⟩ dX2_layTable_42
      · skip
        refine g_aload_n hk dX2_layTable_21 rfl ?_
        refine g_iload_n hk dX2_layTable_22 rfl ?_
        refine g_callV (n := 1) hk (k234_X2_layRow l D zt q d I3758 A3758 x3755 hV3758 (by omega) (by omega)) (SP.same _) (fun _ h => h) (gi_V (List.mem_cons_of_mem _ (List.mem_append_left _ (List.mem_of_getElem? (i := 3) rfl))) (List.mem_cons_of_mem _ (List.mem_append_left _ (List.mem_of_getElem? (i := 4) rfl))) (List.mem_cons_of_mem _ (List.mem_append_left _ (List.mem_of_getElem? (i := 5) rfl))) (List.mem_cons_of_mem _ (List.mem_append_left _ (List.mem_of_getElem? (i := 6) rfl))) (gi_sub (fun w h => (List.mem_cons_of_mem _ (List.mem_append_right _ (List.mem_append_right _ (List.mem_append_left _ h))))) zg_k234_X2_layRow)) rfl rfl rfl (by decide +kernel) ⟨Nat.le_of_ble_eq_true rfl, Nat.le_of_ble_eq_true rfl⟩ 38 rfl rfl rfl rfl (Nat.le_of_ble_eq_true rfl) ⟨Nat.le_of_ble_eq_true rfl, Nat.le_of_ble_eq_true rfl⟩ dX2_layTable_23 (fun v ty' w' hp hk' => ?_)
        obtain ⟨I4012, A4012, hI4012, hA4012, hV4012, y4011, rfl, rfl⟩ := hp
        show GW κ 3 0 0 (wX q d I4012 A4012) 26 [(2, .int x3755), (0, .ref (q 38)), (1, .int z1)] [.int y4011]
        refine g_iload_n hk dX2_layTable_26 rfl ?_
        have b4013l := Int32.le_toInt y4011
        have b4013h := Int32.toInt_lt y4011
        have b4014l := Int32.le_toInt z1
        have b4014h := Int32.toInt_lt z1
        refine g_icmp_lt (tgt := 36) (a := y4011.toInt) (b := z1.toInt) hk dX2_layTable_27 (by decide) rfl rfl (fun c4015 => ?_) (fun c4015 => ?_)
        · skip
          obtain ⟨y4016, ey4016⟩ : ∃ y : Int32, y = x3755 + Int32.ofInt 1 := ⟨_, rfl⟩
          have hy4016 : y4016.toInt = x3755.toInt + 1 := i32_add ey4016 rfl (by decide) (by omega) (by omega)
          refine g_iinc (v := y4016) (lv' := [(2, .int y4016), (0, .ref (q 38)), (1, .int z1)]) hk 0 dX2_layTable_36 rfl ey4016.symm (by decide) rfl ?_
          refine g_goto (tgt := 13) hk dX2_layTable_39 (by decide) ?_
          exact g_lv (List.forall_mem_cons.mpr ⟨List.mem_of_getElem? (i := 0) rfl, (List.forall_mem_cons.mpr ⟨List.mem_of_getElem? (i := 1) rfl, (List.forall_mem_cons.mpr ⟨List.mem_of_getElem? (i := 2) rfl, (fun _ h => absurd h List.not_mem_nil)⟩)⟩)⟩) (ih4008 y4016 I4012 A4012 (show Md [33, 34] (upd (upd I 33 0) 34 (-2)) I4012 from Md.tr hI3758 (show Md [33, 34] I3758 I4012 from (Md.tr Md.rf hI4012 rfl)) rfl) (show Md [23] A A4012 from Md.tr hA3758 (show Md [23] A3758 A4012 from (Md.tr Md.rf hA4012 rfl)) rfl) hV4012 (by omega) (by omega) (by omega) (by omega))
        · skip
          refine g_aload_n hk dX2_layTable_30 rfl ?_
          refine g_iload_n hk dX2_layTable_31 rfl ?_
          refine pX_i34 hk hin2 (List.mem_cons_of_mem _ (List.mem_append_left _ (List.mem_of_getElem? (i := 1) rfl))) dX2_layTable_32 ?_
          exact g_vret hk hR ⟨(upd I4012 34 x3755), A4012, (show Md [33, 34] I (upd I4012 34 x3755) from (Md.up (Md.tr (Md.tr (Md.up (Md.up Md.rf rfl) rfl) hI3758 rfl) hI4012 rfl) rfl)), (show Md [23] A A4012 from (Md.tr (Md.tr Md.rf hA3758 rfl) hA4012 rfl)), ⟨(IvX_f0 (I := I4012) (A := A4012) hV4012), (IvX_f18 (I := I4012) (A := A4012) hV4012), (IvX_f30 (I := I4012) (A := A4012) hV4012), (IvX_f31 (I := I4012) (A := A4012) hV4012), (IvX_a4 (I := I4012) (A := A4012) hV4012), (IvX_a9 (I := I4012) (A := A4012) hV4012), trivial⟩, rfl, rfl⟩ dX2_layTable_35
  have k4018 : (0 : Int32).toInt = 0 := rfl
  obtain ⟨n4017, n4017a, n4017b⟩ : ∃ n : Nat, 17 - 0 < (n : Int) ∧ 0 < n := ⟨((17 - 0 : Int)).toNat + 1, by omega, by omega⟩
  exact lp4005 n4017 0 (upd (upd I 33 0) 34 (-2)) A Md.rf Md.rf ⟨(IvX_f0 (I := I) (A := A) hIv), (IvX_f18 (I := I) (A := A) hIv), (IvX_f30 (I := I) (A := A) hIv), (IvX_f31 (I := I) (A := A) hIv), (IvX_a4 (I := I) (A := A) hIv), (IvX_a9 (I := I) (A := A) hIv), trivial⟩ (by omega) (by omega) n4017a n4017b
def wo_k237_X2_laidDistance : List Cond := [Cond.fieldLink RX2 18 "WarpDesk$Fit" "table" "[I", Cond.fieldLink RX2 24 "WarpDesk$Fit" "length" "I"]
def wz_k237_X2_laidDistance : List Cond := .code yX2_laidDistance cX2_laidDistance 1 (some .int) :: (wo_k237_X2_laidDistance ++ (wsX20 ++ ([] : List Cond)))
theorem zg_k237_X2_laidDistance : ∀ w ∈ wz_k237_X2_laidDistance, goodWord w = true := zg_cons rfl (zg_app (by decide +kernel) (zg_app zgU_wsX20 zg_nil))
theorem zi_k237_X2_laidDistance : ∀ w ∈ wz_k237_X2_laidDistance, w ∈ lw_tbl := zi_cons zw_1016 (zi_app (zi_cons zw_339 (zi_cons zw_343 zi_nil)) (zi_app inX2 zi_nil))
set_option maxHeartbeats 4000000 in
set_option maxRecDepth 100000 in
theorem k237_X2_laidDistance (l : Launch) (D : va_G) (zt : Nat × Nat × Nat × (Nat → Nat) × (Nat → Nat)) (q : Nat → Nat) (d : Nat → ClassId) (I : Nat → Int32) (A : Nat → Nat → Int32) (hIv : IvX I A) : GM l D zt (tyX d) yX2_laidDistance wz_k237_X2_laidDistance ({ frames := 0, cells := 0, slots := 0, locals := 0 } : Room) [.ref (q 38)] (wX q d I A) (fun v _ w' => ∃ y0 : Int32, v = some (.int y0) ∧ w' = wX q d I A) 0 0 := by
  refine GM.of (cc := cX2_laidDistance) (maxL := 1) (ret := (some .int)) (own := RX2) (lv := [(0, .ref (q 38))]) (by decide) rfl rfl (Nat.le_of_ble_eq_true rfl) rfl (fun κ sz hk hR hN => ?_)
  have hin2 : ∀ w ∈ u_ws RX2 TX2 10, w ∈ wz_k237_X2_laidDistance := fun w h => (List.mem_cons_of_mem _ (List.mem_append_right _ (List.mem_append_left _ h)))
  refine g_aload_n hk dX2_laidDistance_0 rfl ?_
  refine gX_r38_2 hk hin2 (List.mem_cons_of_mem _ (List.mem_append_left _ (List.mem_of_getElem? (i := 0) rfl))) dX2_laidDistance_1 ?_
  refine g_aload_n hk dX2_laidDistance_4 rfl ?_
  refine gX_i30 (v := (I 30)) hk hin2 (List.mem_cons_of_mem _ (List.mem_append_left _ (List.mem_of_getElem? (i := 1) rfl))) dX2_laidDistance_5 rfl ?_
  have f4022 := IvX_f30 hIv
  refine g_iconst (v := 1) hk dX2_laidDistance_8 (by decide) ?_
  refine g_isub hk dX2_laidDistance_9 ?_
  refine g_topi (fun y4023 ey4023 => ?_)
  have hy4023 : y4023.toInt = (I 30).toInt - 1 := i32_sub ey4023 rfl rfl (by omega) (by omega)
  refine g_bipush (v := 16) hk dX2_laidDistance_10 (by decide) ?_
  refine g_imul hk dX2_laidDistance_12 ?_
  refine g_topi (fun y4024 ey4024 => ?_)
  have hy4024 : y4024.toInt = y4023.toInt * 16 := i32_mul ey4024 rfl rfl (by omega) (by omega)
  refine g_aload_n hk dX2_laidDistance_13 rfl ?_
  refine gX_i30 (v := (I 30)) hk hin2 (List.mem_cons_of_mem _ (List.mem_append_left _ (List.mem_of_getElem? (i := 1) rfl))) dX2_laidDistance_14 rfl ?_
  refine g_iadd hk dX2_laidDistance_17 ?_
  refine g_topi (fun y4025 ey4025 => ?_)
  have hy4025 : y4025.toInt = y4024.toInt + (I 30).toInt := i32_add ey4025 rfl rfl (by omega) (by omega)
  refine g_iconst (v := 1) hk dX2_laidDistance_18 (by decide) ?_
  refine g_isub hk dX2_laidDistance_19 ?_
  refine g_topi (fun y4026 ey4026 => ?_)
  have hy4026 : y4026.toInt = y4025.toInt - 1 := i32_sub ey4026 rfl rfl (by omega) (by omega)
  refine lX_23 (v := (A 23 y4026.toNatClampNeg)) hk (vp_in_iff.mpr ⟨by omega, by omega⟩) rfl dX2_laidDistance_20 ?_
  have b4027l := Int32.le_toInt (A 23 y4026.toNatClampNeg)
  have b4027h := Int32.toInt_lt (A 23 y4026.toNatClampNeg)
  exact g_iret hk hR rfl ⟨(A 23 y4026.toNatClampNeg), rfl, rfl⟩ dX2_laidDistance_21
def wo_k232_X2_wholeDistance : List Cond := [Cond.constant RX2 93 (2147483647), Cond.methodLink RX2 86 yX2_layTable, Cond.instanceMethod yX2_layTable, Cond.selects RX2 yX2_layTable yX2_layTable, Cond.initialized RX2, Cond.methodLink RX2 90 yX2_laidDistance, Cond.instanceMethod yX2_laidDistance, Cond.selects RX2 yX2_laidDistance yX2_laidDistance]
def wz_k232_X2_wholeDistance : List Cond := .code yX2_wholeDistance cX2_wholeDistance 1 (some .int) :: (wo_k232_X2_wholeDistance ++ (wz_k233_X2_layTable ++ (wz_k237_X2_laidDistance ++ ([] : List Cond))))
theorem zg_k232_X2_wholeDistance : ∀ w ∈ wz_k232_X2_wholeDistance, goodWord w = true := zg_cons rfl (zg_app (by decide +kernel) (zg_app zg_k233_X2_layTable (zg_app zg_k237_X2_laidDistance zg_nil)))
theorem zi_k232_X2_wholeDistance : ∀ w ∈ wz_k232_X2_wholeDistance, w ∈ lw_tbl := zi_cons zw_995 (zi_app (zi_cons zw_996 (zi_cons zw_997 (zi_cons zw_999 (zi_cons zw_28 (zi_cons zw_112 (zi_cons zw_1013 (zi_cons zw_1014 (zi_cons zw_1015 zi_nil)))))))) (zi_app zi_k233_X2_layTable (zi_app zi_k237_X2_laidDistance zi_nil)))
set_option maxHeartbeats 4000000 in
set_option maxRecDepth 100000 in
theorem k232_X2_wholeDistance (l : Launch) (D : va_G) (zt : Nat × Nat × Nat × (Nat → Nat) × (Nat → Nat)) (q : Nat → Nat) (d : Nat → ClassId) (I : Nat → Int32) (A : Nat → Nat → Int32) (hIv : IvX I A) : GM l D zt (tyX d) yX2_wholeDistance wz_k232_X2_wholeDistance ({ frames := 3, cells := 0, slots := 0, locals := 72 } : Room) [.ref (q 38)] (wX q d I A) (fun v _ w' => ∃ (I' : Nat → Int32) (A' : Nat → Nat → Int32), Md [33, 34] I I' ∧ Md [23] A A' ∧ IvX I' A' ∧ ∃ y0 : Int32, v = some (.int y0) ∧ w' = wX q d I' A') 0 0 := by
  refine GM.of (cc := cX2_wholeDistance) (maxL := 1) (ret := (some .int)) (own := RX2) (lv := [(0, .ref (q 38))]) (by decide) rfl rfl (Nat.le_of_ble_eq_true rfl) rfl (fun κ sz hk hR hN => ?_)
  refine g_aload_n hk dX2_wholeDistance_0 rfl ?_
  refine g_ldc (v := 2147483647) hk (List.mem_cons_of_mem _ (List.mem_append_left _ (List.mem_of_getElem? (i := 0) rfl))) dX2_wholeDistance_1 ?_
  have k4019 : (2147483647 : Int32).toInt = 2147483647 := rfl
  refine g_callV (n := 1) hk (k233_X2_layTable l D zt q d I A 2147483647 hIv) (SP.same _) (fun _ h => h) (gi_V (List.mem_cons_of_mem _ (List.mem_append_left _ (List.mem_of_getElem? (i := 1) rfl))) (List.mem_cons_of_mem _ (List.mem_append_left _ (List.mem_of_getElem? (i := 2) rfl))) (List.mem_cons_of_mem _ (List.mem_append_left _ (List.mem_of_getElem? (i := 3) rfl))) (List.mem_cons_of_mem _ (List.mem_append_left _ (List.mem_of_getElem? (i := 4) rfl))) (gi_sub (fun w h => (List.mem_cons_of_mem _ (List.mem_append_right _ (List.mem_append_left _ h)))) zg_k233_X2_layTable)) rfl rfl rfl (by decide +kernel) ⟨Nat.le_of_ble_eq_true rfl, Nat.le_of_ble_eq_true rfl⟩ 38 rfl rfl rfl rfl (Nat.le_of_ble_eq_true rfl) ⟨Nat.le_of_ble_eq_true rfl, Nat.le_of_ble_eq_true rfl⟩ dX2_wholeDistance_3 (fun v ty' w' hp hk' => ?_)
  obtain ⟨I4021, A4021, hI4021, hA4021, hV4021, rfl, rfl⟩ := hp
  show GW κ 1 0 0 (wX q d I4021 A4021) 6 [(0, .ref (q 38))] []
  refine g_aload_n hk dX2_wholeDistance_6 rfl ?_
  refine g_callV (n := 0) hk (k237_X2_laidDistance l D zt q d I4021 A4021  hV4021) (SP.same _) (fun _ h => h) (gi_V (List.mem_cons_of_mem _ (List.mem_append_left _ (List.mem_of_getElem? (i := 5) rfl))) (List.mem_cons_of_mem _ (List.mem_append_left _ (List.mem_of_getElem? (i := 6) rfl))) (List.mem_cons_of_mem _ (List.mem_append_left _ (List.mem_of_getElem? (i := 7) rfl))) (List.mem_cons_of_mem _ (List.mem_append_left _ (List.mem_of_getElem? (i := 4) rfl))) (gi_sub (fun w h => (List.mem_cons_of_mem _ (List.mem_append_right _ (List.mem_append_right _ (List.mem_append_left _ h))))) zg_k237_X2_laidDistance)) rfl rfl rfl (by decide +kernel) ⟨Nat.le_of_ble_eq_true rfl, Nat.le_of_ble_eq_true rfl⟩ 38 rfl rfl rfl rfl (Nat.le_of_ble_eq_true rfl) ⟨Nat.le_of_ble_eq_true rfl, Nat.le_of_ble_eq_true rfl⟩ dX2_wholeDistance_7 (fun v ty' w' hp hk' => ?_)
  obtain ⟨y4028, rfl, rfl⟩ := hp
  show GW κ 1 0 0 (wX q d I4021 A4021) 10 [(0, .ref (q 38))] [.int y4028]
  have b4029l := Int32.le_toInt y4028
  have b4029h := Int32.toInt_lt y4028
  exact g_iret hk hR rfl ⟨I4021, A4021, (show Md [33, 34] I I4021 from (Md.tr Md.rf hI4021 rfl)), (show Md [23] A A4021 from (Md.tr Md.rf hA4021 rfl)), hV4021, y4028, rfl, rfl⟩ dX2_wholeDistance_10
def wo_k221_X11_distance : List Cond := [Cond.fieldLink RX11 65 "WarpDesk" "bench" "LWarpDesk$Bench;", Cond.methodLink RX11 212 yX0_openBoth, Cond.instanceMethod yX0_openBoth, Cond.selects RX0 yX0_openBoth yX0_openBoth, Cond.initialized RX0, Cond.fieldLink RX11 202 "WarpDesk$Bench" "fit" "LWarpDesk$Fit;", Cond.methodLink RX11 215 yX2_wholeDistance, Cond.instanceMethod yX2_wholeDistance, Cond.selects RX2 yX2_wholeDistance yX2_wholeDistance, Cond.initialized RX2]
def wz_k221_X11_distance : List Cond := .code yX11_distance cX11_distance 3 (some .int) :: (wo_k221_X11_distance ++ (wsX00 ++ (wsX110 ++ (wz_k222_X0_openBoth ++ (wz_k232_X2_wholeDistance ++ ([] : List Cond))))))
theorem zg_k221_X11_distance : ∀ w ∈ wz_k221_X11_distance, goodWord w = true := zg_cons rfl (zg_app (by decide +kernel) (zg_app zgU_wsX00 (zg_app zgU_wsX110 (zg_app zg_k222_X0_openBoth (zg_app zg_k232_X2_wholeDistance zg_nil)))))
theorem zi_k221_X11_distance : ∀ w ∈ wz_k221_X11_distance, w ∈ lw_tbl := zi_cons zw_968 (zi_app (zi_cons zw_494 (zi_cons zw_969 (zi_cons zw_970 (zi_cons zw_971 (zi_cons zw_111 (zi_cons zw_383 (zi_cons zw_992 (zi_cons zw_993 (zi_cons zw_994 (zi_cons zw_112 zi_nil)))))))))) (zi_app inX0 (zi_app inX11 (zi_app zi_k222_X0_openBoth (zi_app zi_k232_X2_wholeDistance zi_nil)))))
set_option maxHeartbeats 4000000 in
set_option maxRecDepth 100000 in
theorem k221_X11_distance (l : Launch) (D : va_G) (zt : Nat × Nat × Nat × (Nat → Nat) × (Nat → Nat)) (q : Nat → Nat) (d : Nat → ClassId) (I : Nat → Int32) (A : Nat → Nat → Int32) (z1 : Int32) (z2 : Int32) (hIv : IvX I A) : GM l D zt (tyX d) yX11_distance wz_k221_X11_distance ({ frames := 6, cells := 0, slots := 0, locals := 131 } : Room) [.ref (q 0), .int z1, .int z2] (wX q d I A) (fun v _ w' => ∃ (I' : Nat → Int32) (A' : Nat → Nat → Int32), Md [28, 30, 31, 32, 33, 34] I I' ∧ Md [21, 22, 23] A A' ∧ IvX I' A' ∧ ∃ y0 : Int32, v = some (.int y0) ∧ w' = wX q d I' A') 0 0 := by
  refine GM.of (cc := cX11_distance) (maxL := 3) (ret := (some .int)) (own := RX11) (lv := [(0, .ref (q 0)), (1, .int z1), (2, .int z2)]) (by decide) rfl rfl (Nat.le_of_ble_eq_true rfl) rfl (fun κ sz hk hR hN => ?_)
  have hin0 : ∀ w ∈ u_ws RX0 TX0 5, w ∈ wz_k221_X11_distance := fun w h => (List.mem_cons_of_mem _ (List.mem_append_right _ (List.mem_append_left _ h)))
  have hin11 : ∀ w ∈ u_ws RX11 TX11 10, w ∈ wz_k221_X11_distance := fun w h => (List.mem_cons_of_mem _ (List.mem_append_right _ (List.mem_append_right _ (List.mem_append_left _ h))))
  refine g_aload_n hk dX11_distance_0 rfl ?_
  refine gX_r0_7 hk hin11 (List.mem_cons_of_mem _ (List.mem_append_left _ (List.mem_of_getElem? (i := 0) rfl))) dX11_distance_1 ?_
  refine g_iload_n hk dX11_distance_4 rfl ?_
  refine g_iload_n hk dX11_distance_5 rfl ?_
  refine g_callV (n := 2) hk (k222_X0_openBoth l D zt q d I A z1 z2 hIv) (SP.same _) (fun _ h => h) (gi_V (List.mem_cons_of_mem _ (List.mem_append_left _ (List.mem_of_getElem? (i := 1) rfl))) (List.mem_cons_of_mem _ (List.mem_append_left _ (List.mem_of_getElem? (i := 2) rfl))) (List.mem_cons_of_mem _ (List.mem_append_left _ (List.mem_of_getElem? (i := 3) rfl))) (List.mem_cons_of_mem _ (List.mem_append_left _ (List.mem_of_getElem? (i := 4) rfl))) (gi_sub (fun w h => (List.mem_cons_of_mem _ (List.mem_append_right _ (List.mem_append_right _ (List.mem_append_right _ (List.mem_append_left _ h)))))) zg_k222_X0_openBoth)) rfl rfl rfl (by decide +kernel) ⟨Nat.le_of_ble_eq_true rfl, Nat.le_of_ble_eq_true rfl⟩ 37 rfl rfl rfl rfl (Nat.le_of_ble_eq_true rfl) ⟨Nat.le_of_ble_eq_true rfl, Nat.le_of_ble_eq_true rfl⟩ dX11_distance_6 (fun v ty' w' hp hk' => ?_)
  obtain ⟨I3753, A3753, hI3753, hA3753, hV3753, y3750, c3751, c3752, rfl, rfl⟩ := hp
  show GW κ 3 0 0 (wX q d I3753 A3753) 9 [(0, .ref (q 0)), (1, .int z1), (2, .int z2)] [.int y3750]
  refine g_if_eq (tgt := 25) (a := y3750.toInt) hk dX11_distance_9 (by decide) rfl (fun c3754 => ?_) (fun c3754 => ?_)
  · skip
    refine g_iconst (v := (-1)) hk dX11_distance_25 (by decide) ?_
    exact g_iret hk hR rfl ⟨I3753, A3753, (show Md [28, 30, 31, 32, 33, 34] I I3753 from (Md.tr Md.rf hI3753 rfl)), (show Md [21, 22, 23] A A3753 from (Md.tr Md.rf hA3753 rfl)), hV3753, (-1), rfl, rfl⟩ dX11_distance_26
  · skip
    refine g_aload_n hk dX11_distance_12 rfl ?_
    refine gX_r0_7 hk hin11 (List.mem_cons_of_mem _ (List.mem_append_left _ (List.mem_of_getElem? (i := 0) rfl))) dX11_distance_13 ?_
    refine gX_r37_3 hk hin0 (List.mem_cons_of_mem _ (List.mem_append_left _ (List.mem_of_getElem? (i := 5) rfl))) dX11_distance_16 ?_
    refine g_callV (n := 0) hk (k232_X2_wholeDistance l D zt q d I3753 A3753  hV3753) (SP.same _) (fun _ h => h) (gi_V (List.mem_cons_of_mem _ (List.mem_append_left _ (List.mem_of_getElem? (i := 6) rfl))) (List.mem_cons_of_mem _ (List.mem_append_left _ (List.mem_of_getElem? (i := 7) rfl))) (List.mem_cons_of_mem _ (List.mem_append_left _ (List.mem_of_getElem? (i := 8) rfl))) (List.mem_cons_of_mem _ (List.mem_append_left _ (List.mem_of_getElem? (i := 9) rfl))) (gi_sub (fun w h => (List.mem_cons_of_mem _ (List.mem_append_right _ (List.mem_append_right _ (List.mem_append_right _ (List.mem_append_right _ (List.mem_append_left _ h))))))) zg_k232_X2_wholeDistance)) rfl rfl rfl (by decide +kernel) ⟨Nat.le_of_ble_eq_true rfl, Nat.le_of_ble_eq_true rfl⟩ 38 rfl rfl rfl rfl (Nat.le_of_ble_eq_true rfl) ⟨Nat.le_of_ble_eq_true rfl, Nat.le_of_ble_eq_true rfl⟩ dX11_distance_19 (fun v ty' w' hp hk' => ?_)
    obtain ⟨I4031, A4031, hI4031, hA4031, hV4031, y4030, rfl, rfl⟩ := hp
    show GW κ 3 0 0 (wX q d I4031 A4031) 22 [(0, .ref (q 0)), (1, .int z1), (2, .int z2)] [.int y4030]
    refine g_goto (tgt := 26) hk dX11_distance_22 (by decide) ?_
    have b4032l := Int32.le_toInt y4030
    have b4032h := Int32.toInt_lt y4030
    exact g_iret hk hR rfl ⟨I4031, A4031, (show Md [28, 30, 31, 32, 33, 34] I I4031 from (Md.tr (Md.tr Md.rf hI3753 rfl) hI4031 rfl)), (show Md [21, 22, 23] A A4031 from (Md.tr (Md.tr Md.rf hA3753 rfl) hA4031 rfl)), hV4031, y4030, rfl, rfl⟩ dX11_distance_26
def wo_k239_X2_endsBound : List Cond := [Cond.fieldLink RX2 24 "WarpDesk$Fit" "length" "I", Cond.fieldLink RX2 9 "WarpDesk$Fit" "left" "[I", Cond.fieldLink RX2 15 "WarpDesk$Fit" "right" "[I", Cond.methodLink RX2 65 yX2_costOf, Cond.instanceMethod yX2_costOf, Cond.selects RX2 yX2_costOf yX2_costOf, Cond.initialized RX2]
def wz_k239_X2_endsBound : List Cond := .code yX2_endsBound cX2_endsBound 2 (some .int) :: (wo_k239_X2_endsBound ++ (wsX20 ++ (wz_k235_X2_costOf ++ ([] : List Cond))))
theorem zg_k239_X2_endsBound : ∀ w ∈ wz_k239_X2_endsBound, goodWord w = true := zg_cons rfl (zg_app (by decide +kernel) (zg_app zgU_wsX20 (zg_app zg_k235_X2_costOf zg_nil)))
theorem zi_k239_X2_endsBound : ∀ w ∈ wz_k239_X2_endsBound, w ∈ lw_tbl := zi_cons zw_1024 (zi_app (zi_cons zw_343 (zi_cons zw_334 (zi_cons zw_337 (zi_cons zw_1005 (zi_cons zw_1007 (zi_cons zw_30 (zi_cons zw_112 zi_nil))))))) (zi_app inX2 (zi_app zi_k235_X2_costOf zi_nil)))
set_option maxHeartbeats 4000000 in
set_option maxRecDepth 100000 in
theorem k239_X2_endsBound (l : Launch) (D : va_G) (zt : Nat × Nat × Nat × (Nat → Nat) × (Nat → Nat)) (q : Nat → Nat) (d : Nat → ClassId) (I : Nat → Int32) (A : Nat → Nat → Int32) (hIv : IvX I A) : GM l D zt (tyX d) yX2_endsBound wz_k239_X2_endsBound ({ frames := 1, cells := 0, slots := 0, locals := 23 } : Room) [.ref (q 38)] (wX q d I A) (fun v _ w' => ∃ y0 : Int32, v = some (.int y0) ∧ w' = wX q d I A) 0 0 := by
  refine GM.of (cc := cX2_endsBound) (maxL := 2) (ret := (some .int)) (own := RX2) (lv := [(0, .ref (q 38))]) (by decide) rfl rfl (Nat.le_of_ble_eq_true rfl) rfl (fun κ sz hk hR hN => ?_)
  have hin2 : ∀ w ∈ u_ws RX2 TX2 10, w ∈ wz_k239_X2_endsBound := fun w h => (List.mem_cons_of_mem _ (List.mem_append_right _ (List.mem_append_left _ h)))
  refine g_aload_n hk dX2_endsBound_0 rfl ?_
  refine gX_i30 (v := (I 30)) hk hin2 (List.mem_cons_of_mem _ (List.mem_append_left _ (List.mem_of_getElem? (i := 0) rfl))) dX2_endsBound_1 rfl ?_
  have f4039 := IvX_f30 hIv
  refine g_iconst (v := 1) hk dX2_endsBound_4 (by decide) ?_
  refine g_isub hk dX2_endsBound_5 ?_
  refine g_topi (fun y4040 ey4040 => ?_)
  have hy4040 : y4040.toInt = (I 30).toInt - 1 := i32_sub ey4040 rfl rfl (by omega) (by omega)
  refine g_istore_n (lv' := [(1, .int y4040), (0, .ref (q 38))]) hk dX2_endsBound_6 (by decide) rfl ?_
  refine g_aload_n hk dX2_endsBound_7 rfl ?_
  refine g_aload_n hk dX2_endsBound_8 rfl ?_
  refine gX_r38_0 hk hin2 (List.mem_cons_of_mem _ (List.mem_append_left _ (List.mem_of_getElem? (i := 1) rfl))) dX2_endsBound_9 ?_
  refine g_iconst (v := 0) hk dX2_endsBound_12 (by decide) ?_
  refine lX_21 (v := (A 21 0)) hk (vp_in_iff.mpr ⟨by decide, by decide⟩) rfl dX2_endsBound_13 ?_
  refine g_aload_n hk dX2_endsBound_14 rfl ?_
  refine gX_r38_1 hk hin2 (List.mem_cons_of_mem _ (List.mem_append_left _ (List.mem_of_getElem? (i := 2) rfl))) dX2_endsBound_15 ?_
  refine g_iconst (v := 0) hk dX2_endsBound_18 (by decide) ?_
  refine lX_22 (v := (A 22 0)) hk (vp_in_iff.mpr ⟨by decide, by decide⟩) rfl dX2_endsBound_19 ?_
  refine g_callV (n := 2) hk (k235_X2_costOf l D zt q d I A (A 21 0) (A 22 0) hIv) (SP.same _) (fun _ h => h) (gi_V (List.mem_cons_of_mem _ (List.mem_append_left _ (List.mem_of_getElem? (i := 3) rfl))) (List.mem_cons_of_mem _ (List.mem_append_left _ (List.mem_of_getElem? (i := 4) rfl))) (List.mem_cons_of_mem _ (List.mem_append_left _ (List.mem_of_getElem? (i := 5) rfl))) (List.mem_cons_of_mem _ (List.mem_append_left _ (List.mem_of_getElem? (i := 6) rfl))) (gi_sub (fun w h => (List.mem_cons_of_mem _ (List.mem_append_right _ (List.mem_append_right _ (List.mem_append_left _ h))))) zg_k235_X2_costOf)) rfl rfl rfl (by decide +kernel) ⟨Nat.le_of_ble_eq_true rfl, Nat.le_of_ble_eq_true rfl⟩ 38 rfl rfl rfl rfl (Nat.le_of_ble_eq_true rfl) ⟨Nat.le_of_ble_eq_true rfl, Nat.le_of_ble_eq_true rfl⟩ dX2_endsBound_20 (fun v ty' w' hp hk' => ?_)
  obtain ⟨y4041, rfl, rfl⟩ := hp
  show GW κ 2 0 0 (wX q d I A) 23 [(1, .int y4040), (0, .ref (q 38))] [.int y4041]
  refine g_aload_n hk dX2_endsBound_23 rfl ?_
  refine g_aload_n hk dX2_endsBound_24 rfl ?_
  refine gX_r38_0 hk hin2 (List.mem_cons_of_mem _ (List.mem_append_left _ (List.mem_of_getElem? (i := 1) rfl))) dX2_endsBound_25 ?_
  refine g_iload_n hk dX2_endsBound_28 rfl ?_
  refine lX_21 (v := (A 21 y4040.toNatClampNeg)) hk (vp_in_iff.mpr ⟨by omega, by omega⟩) rfl dX2_endsBound_29 ?_
  refine g_aload_n hk dX2_endsBound_30 rfl ?_
  refine gX_r38_1 hk hin2 (List.mem_cons_of_mem _ (List.mem_append_left _ (List.mem_of_getElem? (i := 2) rfl))) dX2_endsBound_31 ?_
  refine g_iload_n hk dX2_endsBound_34 rfl ?_
  refine lX_22 (v := (A 22 y4040.toNatClampNeg)) hk (vp_in_iff.mpr ⟨by omega, by omega⟩) rfl dX2_endsBound_35 ?_
  refine g_callV (n := 2) hk (k235_X2_costOf l D zt q d I A (A 21 y4040.toNatClampNeg) (A 22 y4040.toNatClampNeg) hIv) (SP.same _) (fun _ h => h) (gi_V (List.mem_cons_of_mem _ (List.mem_append_left _ (List.mem_of_getElem? (i := 3) rfl))) (List.mem_cons_of_mem _ (List.mem_append_left _ (List.mem_of_getElem? (i := 4) rfl))) (List.mem_cons_of_mem _ (List.mem_append_left _ (List.mem_of_getElem? (i := 5) rfl))) (List.mem_cons_of_mem _ (List.mem_append_left _ (List.mem_of_getElem? (i := 6) rfl))) (gi_sub (fun w h => (List.mem_cons_of_mem _ (List.mem_append_right _ (List.mem_append_right _ (List.mem_append_left _ h))))) zg_k235_X2_costOf)) rfl rfl rfl (by decide +kernel) ⟨Nat.le_of_ble_eq_true rfl, Nat.le_of_ble_eq_true rfl⟩ 38 rfl rfl rfl rfl (Nat.le_of_ble_eq_true rfl) ⟨Nat.le_of_ble_eq_true rfl, Nat.le_of_ble_eq_true rfl⟩ dX2_endsBound_36 (fun v ty' w' hp hk' => ?_)
  obtain ⟨y4042, rfl, rfl⟩ := hp
  show GW κ 2 0 0 (wX q d I A) 39 [(1, .int y4040), (0, .ref (q 38))] [.int y4042, .int y4041]
  have b4043l := Int32.le_toInt y4041
  have b4043h := Int32.toInt_lt y4041
  have b4044l := Int32.le_toInt y4042
  have b4044h := Int32.toInt_lt y4042
  refine g_iadd hk dX2_endsBound_39 ?_
  refine g_topi (fun y4045 ey4045 => ?_)
  have b4046l := Int32.le_toInt y4045
  have b4046h := Int32.toInt_lt y4045
  exact g_iret hk hR rfl ⟨y4045, rfl, rfl⟩ dX2_endsBound_40
def wo_k242_X2_outsideCost : List Cond := [Cond.fieldLink RX2 37 "WarpDesk$Fit" "band" "I", Cond.methodLink RX2 34 Lib.Math.max.name, Cond.static Lib.Math.max.name, Cond.initialized "java/lang/Math", Cond.code Lib.Math.max.name Lib.Math.max.code 2 (some .int), Cond.fieldLink RX2 24 "WarpDesk$Fit" "length" "I", Cond.methodLink RX2 28 Lib.Math.min.name, Cond.static Lib.Math.min.name, Cond.code Lib.Math.min.name Lib.Math.min.code 2 (some .int), Cond.methodLink RX2 65 yX2_costOf, Cond.instanceMethod yX2_costOf, Cond.selects RX2 yX2_costOf yX2_costOf, Cond.initialized RX2]
def wz_k242_X2_outsideCost : List Cond := .code yX2_outsideCost cX2_outsideCost 10 (some .int) :: (wo_k242_X2_outsideCost ++ (wsX20 ++ (wz_k235_X2_costOf ++ ([] : List Cond))))
theorem zg_k242_X2_outsideCost : ∀ w ∈ wz_k242_X2_outsideCost, goodWord w = true := zg_cons rfl (zg_app (by decide +kernel) (zg_app zgU_wsX20 (zg_app zg_k235_X2_costOf zg_nil)))
theorem zi_k242_X2_outsideCost : ∀ w ∈ wz_k242_X2_outsideCost, w ∈ lw_tbl := zi_cons zw_1036 (zi_app (zi_cons zw_344 (zi_cons zw_943 (zi_cons zw_920 (zi_cons zw_120 (zi_cons zw_921 (zi_cons zw_343 (zi_cons zw_942 (zi_cons zw_829 (zi_cons zw_830 (zi_cons zw_1005 (zi_cons zw_1007 (zi_cons zw_30 (zi_cons zw_112 zi_nil))))))))))))) (zi_app inX2 (zi_app zi_k235_X2_costOf zi_nil)))
set_option maxHeartbeats 4000000 in
set_option maxRecDepth 100000 in
theorem k242_X2_outsideCost (l : Launch) (D : va_G) (zt : Nat × Nat × Nat × (Nat → Nat) × (Nat → Nat)) (q : Nat → Nat) (d : Nat → ClassId) (I : Nat → Int32) (A : Nat → Nat → Int32) (z1 : Int32) (z3 : Int32) (hIv : IvX I A) (hp0 : 0 ≤ z3.toInt) (hp1 : z3.toInt ≤ 15) : GM l D zt (tyX d) yX2_outsideCost wz_k242_X2_outsideCost ({ frames := 1, cells := 0, slots := 0, locals := 23 } : Room) [.ref (q 38), .int z1, .ref (q 39), .int z3] (wX q d I A) (fun v _ w' => ∃ y0 : Int32, v = some (.int y0) ∧ w' = wX q d I A) 0 0 := by
  refine GM.of (cc := cX2_outsideCost) (maxL := 10) (ret := (some .int)) (own := RX2) (lv := [(0, .ref (q 38)), (1, .int z1), (2, .ref (q 39)), (3, .int z3)]) (by decide) rfl rfl (Nat.le_of_ble_eq_true rfl) rfl (fun κ sz hk hR hN => ?_)
  have hin2 : ∀ w ∈ u_ws RX2 TX2 10, w ∈ wz_k242_X2_outsideCost := fun w h => (List.mem_cons_of_mem _ (List.mem_append_right _ (List.mem_append_left _ h)))
  refine g_iconst (v := 0) hk dX2_outsideCost_0 (by decide) ?_
  refine g_iload_n hk dX2_outsideCost_1 rfl ?_
  refine g_aload_n hk dX2_outsideCost_2 rfl ?_
  refine gX_i31 (v := (I 31)) hk hin2 (List.mem_cons_of_mem _ (List.mem_append_left _ (List.mem_of_getElem? (i := 0) rfl))) dX2_outsideCost_3 rfl ?_
  have f4057 := IvX_f31 hIv
  have b4058l := Int32.le_toInt (I 31)
  have b4058h := Int32.toInt_lt (I 31)
  refine g_isub hk dX2_outsideCost_6 ?_
  refine g_topi (fun y4059 ey4059 => ?_)
  have hy4059 : y4059.toInt = z3.toInt - (I 31).toInt := i32_sub ey4059 rfl rfl (by omega) (by omega)
  refine g_mmax hk (List.mem_cons_of_mem _ (List.mem_append_left _ (List.mem_of_getElem? (i := 1) rfl))) (List.mem_cons_of_mem _ (List.mem_append_left _ (List.mem_of_getElem? (i := 2) rfl))) (List.mem_cons_of_mem _ (List.mem_append_left _ (List.mem_of_getElem? (i := 3) rfl))) (List.mem_cons_of_mem _ (List.mem_append_left _ (List.mem_of_getElem? (i := 4) rfl))) (Nat.le_of_ble_eq_true rfl) (Nat.le_of_ble_eq_true rfl) (Nat.le_of_ble_eq_true rfl) (Nat.le_of_ble_eq_true rfl) dX2_outsideCost_7 ?_
  refine g_topi (fun y4060 ey4060 => ?_)
  have k4061 : (0 : Int32).toInt = 0 := rfl
  have hy4060 := i32_max ey4060
  refine g_istore (lv' := [(4, .int y4060), (0, .ref (q 38)), (1, .int z1), (2, .ref (q 39)), (3, .int z3)]) hk dX2_outsideCost_10 (by decide) rfl ?_
  refine g_aload_n hk dX2_outsideCost_12 rfl ?_
  refine gX_i30 (v := (I 30)) hk hin2 (List.mem_cons_of_mem _ (List.mem_append_left _ (List.mem_of_getElem? (i := 5) rfl))) dX2_outsideCost_13 rfl ?_
  have f4062 := IvX_f30 hIv
  refine g_iconst (v := 1) hk dX2_outsideCost_16 (by decide) ?_
  refine g_isub hk dX2_outsideCost_17 ?_
  refine g_topi (fun y4063 ey4063 => ?_)
  have hy4063 : y4063.toInt = (I 30).toInt - 1 := i32_sub ey4063 rfl rfl (by omega) (by omega)
  refine g_iload_n hk dX2_outsideCost_18 rfl ?_
  refine g_aload_n hk dX2_outsideCost_19 rfl ?_
  refine gX_i31 (v := (I 31)) hk hin2 (List.mem_cons_of_mem _ (List.mem_append_left _ (List.mem_of_getElem? (i := 0) rfl))) dX2_outsideCost_20 rfl ?_
  refine g_iadd hk dX2_outsideCost_23 ?_
  refine g_topi (fun y4064 ey4064 => ?_)
  have b4065l := Int32.le_toInt y4064
  have b4065h := Int32.toInt_lt y4064
  refine g_mmin hk (List.mem_cons_of_mem _ (List.mem_append_left _ (List.mem_of_getElem? (i := 6) rfl))) (List.mem_cons_of_mem _ (List.mem_append_left _ (List.mem_of_getElem? (i := 7) rfl))) (List.mem_cons_of_mem _ (List.mem_append_left _ (List.mem_of_getElem? (i := 3) rfl))) (List.mem_cons_of_mem _ (List.mem_append_left _ (List.mem_of_getElem? (i := 8) rfl))) (Nat.le_of_ble_eq_true rfl) (Nat.le_of_ble_eq_true rfl) (Nat.le_of_ble_eq_true rfl) (Nat.le_of_ble_eq_true rfl) dX2_outsideCost_24 ?_
  refine g_topi (fun y4066 ey4066 => ?_)
  have hy4066 := i32_min ey4066
  refine g_istore (lv' := [(5, .int y4066), (4, .int y4060), (0, .ref (q 38)), (1, .int z1), (2, .ref (q 39)), (3, .int z3)]) hk dX2_outsideCost_27 (by decide) rfl ?_
  refine g_aload_n hk dX2_outsideCost_29 rfl ?_
  refine g_iload hk dX2_outsideCost_30 rfl ?_
  refine lX_21 (v := (A 21 y4060.toNatClampNeg)) hk (vp_in_iff.mpr ⟨by omega, by omega⟩) rfl dX2_outsideCost_32 ?_
  refine g_istore (lv' := [(6, .int (A 21 y4060.toNatClampNeg)), (5, .int y4066), (4, .int y4060), (0, .ref (q 38)), (1, .int z1), (2, .ref (q 39)), (3, .int z3)]) hk dX2_outsideCost_33 (by decide) rfl ?_
  refine g_iload hk dX2_outsideCost_35 rfl ?_
  refine g_istore (lv' := [(7, .int (A 21 y4060.toNatClampNeg)), (6, .int (A 21 y4060.toNatClampNeg)), (5, .int y4066), (4, .int y4060), (0, .ref (q 38)), (1, .int z1), (2, .ref (q 39)), (3, .int z3)]) hk dX2_outsideCost_37 (by decide) rfl ?_
  refine g_iload hk dX2_outsideCost_39 rfl ?_
  refine g_iconst (v := 1) hk dX2_outsideCost_41 (by decide) ?_
  refine g_iadd hk dX2_outsideCost_42 ?_
  refine g_topi (fun y4067 ey4067 => ?_)
  have hy4067 : y4067.toInt = y4060.toInt + 1 := i32_add ey4067 rfl rfl (by omega) (by omega)
  refine g_istore (lv' := [(8, .int y4067), (7, .int (A 21 y4060.toNatClampNeg)), (6, .int (A 21 y4060.toNatClampNeg)), (5, .int y4066), (4, .int y4060), (0, .ref (q 38)), (1, .int z1), (2, .ref (q 39)), (3, .int z3)]) hk dX2_outsideCost_43 (by decide) rfl ?_
  have lp4112 : ∀ (n4113 : Nat) (x4068 : Int32) (x4069 : Int32) (x4070 : Int32), (1 ≤ x4068.toInt) → (x4068.toInt ≤ 16) → (16 - x4068.toInt < (n4113 : Int)) → (0 < n4113) → GW κ 10 0 0 (wX q d I A) 45 [(8, .int x4068), (7, .int x4069), (6, .int x4070), (5, .int y4066), (4, .int y4060), (0, .ref (q 38)), (1, .int z1), (2, .ref (q 39)), (3, .int z3)] [] := by
    intro n4113
    induction n4113 with
    | zero =>
      intro x4068 x4069 x4070 h4110 h4111 m4114 m4114z
      exact absurd m4114z (Nat.lt_irrefl 0)
    | succ n4113 ih4115 =>
      intro x4068 x4069 x4070 h4110 h4111 m4114 m4114z
      refine g_iload hk dX2_outsideCost_45 rfl ?_
      refine g_iload hk dX2_outsideCost_47 rfl ?_
      have b4116l := Int32.le_toInt y4066
      have b4116h := Int32.toInt_lt y4066
      refine g_icmp_gt (tgt := 89) (a := x4068.toInt) (b := y4066.toInt) hk dX2_outsideCost_49 (by decide) rfl rfl (fun c4117 => ?_) (fun c4117 => ?_)
      · skip
        refine g_iload_n hk dX2_outsideCost_89 rfl ?_
        refine g_iload hk dX2_outsideCost_90 rfl ?_
        have b4118l := Int32.le_toInt z1
        have b4118h := Int32.toInt_lt z1
        have b4119l := Int32.le_toInt x4069
        have b4119h := Int32.toInt_lt x4069
        refine g_icmp_le (tgt := 103) (a := z1.toInt) (b := x4069.toInt) hk dX2_outsideCost_92 (by decide) rfl rfl (fun c4120 => ?_) (fun c4120 => ?_)
        · skip
          refine g_iload_n hk dX2_outsideCost_103 rfl ?_
          refine g_iload hk dX2_outsideCost_104 rfl ?_
          have b4121l := Int32.le_toInt x4070
          have b4121h := Int32.toInt_lt x4070
          refine g_icmp_ge (tgt := 119) (a := z1.toInt) (b := x4070.toInt) hk dX2_outsideCost_106 (by decide) rfl rfl (fun c4122 => ?_) (fun c4122 => ?_)
          · skip
            refine g_iconst (v := 0) hk dX2_outsideCost_119 (by decide) ?_
            exact g_iret hk hR rfl ⟨0, rfl, rfl⟩ dX2_outsideCost_120
          · skip
            refine g_aload_n hk dX2_outsideCost_109 rfl ?_
            refine g_iload_n hk dX2_outsideCost_110 rfl ?_
            refine g_iload hk dX2_outsideCost_111 rfl ?_
            refine g_callV (n := 2) hk (k235_X2_costOf l D zt q d I A z1 x4070 hIv) (SP.same _) (fun _ h => h) (gi_V (List.mem_cons_of_mem _ (List.mem_append_left _ (List.mem_of_getElem? (i := 9) rfl))) (List.mem_cons_of_mem _ (List.mem_append_left _ (List.mem_of_getElem? (i := 10) rfl))) (List.mem_cons_of_mem _ (List.mem_append_left _ (List.mem_of_getElem? (i := 11) rfl))) (List.mem_cons_of_mem _ (List.mem_append_left _ (List.mem_of_getElem? (i := 12) rfl))) (gi_sub (fun w h => (List.mem_cons_of_mem _ (List.mem_append_right _ (List.mem_append_right _ (List.mem_append_left _ h))))) zg_k235_X2_costOf)) rfl rfl rfl (by decide +kernel) ⟨Nat.le_of_ble_eq_true rfl, Nat.le_of_ble_eq_true rfl⟩ 38 rfl rfl rfl rfl (Nat.le_of_ble_eq_true rfl) ⟨Nat.le_of_ble_eq_true rfl, Nat.le_of_ble_eq_true rfl⟩ dX2_outsideCost_113 (fun v ty' w' hp hk' => ?_)
            obtain ⟨y4123, rfl, rfl⟩ := hp
            show GW κ 10 0 0 (wX q d I A) 116 [(8, .int x4068), (7, .int x4069), (6, .int x4070), (5, .int y4066), (4, .int y4060), (0, .ref (q 38)), (1, .int z1), (2, .ref (q 39)), (3, .int z3)] [.int y4123]
            refine g_goto (tgt := 120) hk dX2_outsideCost_116 (by decide) ?_
            have b4124l := Int32.le_toInt y4123
            have b4124h := Int32.toInt_lt y4123
            exact g_iret hk hR rfl ⟨y4123, rfl, rfl⟩ dX2_outsideCost_120
        · skip
          refine g_aload_n hk dX2_outsideCost_95 rfl ?_
          refine g_iload_n hk dX2_outsideCost_96 rfl ?_
          refine g_iload hk dX2_outsideCost_97 rfl ?_
          refine g_callV (n := 2) hk (k235_X2_costOf l D zt q d I A z1 x4069 hIv) (SP.same _) (fun _ h => h) (gi_V (List.mem_cons_of_mem _ (List.mem_append_left _ (List.mem_of_getElem? (i := 9) rfl))) (List.mem_cons_of_mem _ (List.mem_append_left _ (List.mem_of_getElem? (i := 10) rfl))) (List.mem_cons_of_mem _ (List.mem_append_left _ (List.mem_of_getElem? (i := 11) rfl))) (List.mem_cons_of_mem _ (List.mem_append_left _ (List.mem_of_getElem? (i := 12) rfl))) (gi_sub (fun w h => (List.mem_cons_of_mem _ (List.mem_append_right _ (List.mem_append_right _ (List.mem_append_left _ h))))) zg_k235_X2_costOf)) rfl rfl rfl (by decide +kernel) ⟨Nat.le_of_ble_eq_true rfl, Nat.le_of_ble_eq_true rfl⟩ 38 rfl rfl rfl rfl (Nat.le_of_ble_eq_true rfl) ⟨Nat.le_of_ble_eq_true rfl, Nat.le_of_ble_eq_true rfl⟩ dX2_outsideCost_99 (fun v ty' w' hp hk' => ?_)
          obtain ⟨y4125, rfl, rfl⟩ := hp
          show GW κ 10 0 0 (wX q d I A) 102 [(8, .int x4068), (7, .int x4069), (6, .int x4070), (5, .int y4066), (4, .int y4060), (0, .ref (q 38)), (1, .int z1), (2, .ref (q 39)), (3, .int z3)] [.int y4125]
          have b4126l := Int32.le_toInt y4125
          have b4126h := Int32.toInt_lt y4125
          exact g_iret hk hR rfl ⟨y4125, rfl, rfl⟩ dX2_outsideCost_102
      · skip
        refine g_aload_n hk dX2_outsideCost_52 rfl ?_
        refine g_iload hk dX2_outsideCost_53 rfl ?_
        refine lX_21 (v := (A 21 x4068.toNatClampNeg)) hk (vp_in_iff.mpr ⟨by omega, by omega⟩) rfl dX2_outsideCost_55 ?_
        refine g_istore (lv' := [(9, .int (A 21 x4068.toNatClampNeg)), (8, .int x4068), (7, .int x4069), (6, .int x4070), (5, .int y4066), (4, .int y4060), (0, .ref (q 38)), (1, .int z1), (2, .ref (q 39)), (3, .int z3)]) hk dX2_outsideCost_56 (by decide) rfl ?_
        refine g_iload hk dX2_outsideCost_58 rfl ?_
        refine g_iload hk dX2_outsideCost_60 rfl ?_
        have b4127l := Int32.le_toInt (A 21 x4068.toNatClampNeg)
        have b4127h := Int32.toInt_lt (A 21 x4068.toNatClampNeg)
        have b4128l := Int32.le_toInt x4070
        have b4128h := Int32.toInt_lt x4070
        refine g_icmp_ge (tgt := 72) (a := (A 21 x4068.toNatClampNeg).toInt) (b := x4070.toInt) hk dX2_outsideCost_62 (by decide) rfl rfl (fun c4129 => ?_) (fun c4129 => ?_)
        · skip
          refine g_iload hk dX2_outsideCost_72 rfl ?_
          refine g_iload hk dX2_outsideCost_74 rfl ?_
          have b4130l := Int32.le_toInt x4069
          have b4130h := Int32.toInt_lt x4069
          refine g_icmp_le (tgt := 83) (a := (A 21 x4068.toNatClampNeg).toInt) (b := x4069.toInt) hk dX2_outsideCost_76 (by decide) rfl rfl (fun c4131 => ?_) (fun c4131 => ?_)
          · skip
            obtain ⟨y4132, ey4132⟩ : ∃ y : Int32, y = x4068 + Int32.ofInt 1 := ⟨_, rfl⟩
            have hy4132 : y4132.toInt = x4068.toInt + 1 := i32_add ey4132 rfl (by decide) (by omega) (by omega)
            refine g_iinc (v := y4132) (lv' := [(8, .int y4132), (9, .int (A 21 x4068.toNatClampNeg)), (7, .int x4069), (6, .int x4070), (5, .int y4066), (4, .int y4060), (0, .ref (q 38)), (1, .int z1), (2, .ref (q 39)), (3, .int z3)]) hk 1 dX2_outsideCost_83 rfl ey4132.symm (by decide) rfl ?_
            refine g_goto (tgt := 45) hk dX2_outsideCost_86 (by decide) ?_
            exact g_lv (List.forall_mem_cons.mpr ⟨List.mem_of_getElem? (i := 0) rfl, (List.forall_mem_cons.mpr ⟨List.mem_of_getElem? (i := 2) rfl, (List.forall_mem_cons.mpr ⟨List.mem_of_getElem? (i := 3) rfl, (List.forall_mem_cons.mpr ⟨List.mem_of_getElem? (i := 4) rfl, (List.forall_mem_cons.mpr ⟨List.mem_of_getElem? (i := 5) rfl, (List.forall_mem_cons.mpr ⟨List.mem_of_getElem? (i := 6) rfl, (List.forall_mem_cons.mpr ⟨List.mem_of_getElem? (i := 7) rfl, (List.forall_mem_cons.mpr ⟨List.mem_of_getElem? (i := 8) rfl, (List.forall_mem_cons.mpr ⟨List.mem_of_getElem? (i := 9) rfl, (fun _ h => absurd h List.not_mem_nil)⟩)⟩)⟩)⟩)⟩)⟩)⟩)⟩)⟩) (ih4115 y4132 x4069 x4070 (by omega) (by omega) (by omega) (by omega))
          · skip
            refine g_iload hk dX2_outsideCost_79 rfl ?_
            refine g_istore (lv' := [(7, .int (A 21 x4068.toNatClampNeg)), (9, .int (A 21 x4068.toNatClampNeg)), (8, .int x4068), (6, .int x4070), (5, .int y4066), (4, .int y4060), (0, .ref (q 38)), (1, .int z1), (2, .ref (q 39)), (3, .int z3)]) hk dX2_outsideCost_81 (by decide) rfl ?_
            obtain ⟨y4133, ey4133⟩ : ∃ y : Int32, y = x4068 + Int32.ofInt 1 := ⟨_, rfl⟩
            have hy4133 : y4133.toInt = x4068.toInt + 1 := i32_add ey4133 rfl (by decide) (by omega) (by omega)
            refine g_iinc (v := y4133) (lv' := [(8, .int y4133), (7, .int (A 21 x4068.toNatClampNeg)), (9, .int (A 21 x4068.toNatClampNeg)), (6, .int x4070), (5, .int y4066), (4, .int y4060), (0, .ref (q 38)), (1, .int z1), (2, .ref (q 39)), (3, .int z3)]) hk 2 dX2_outsideCost_83 rfl ey4133.symm (by decide) rfl ?_
            refine g_goto (tgt := 45) hk dX2_outsideCost_86 (by decide) ?_
            exact g_lv (List.forall_mem_cons.mpr ⟨List.mem_of_getElem? (i := 0) rfl, (List.forall_mem_cons.mpr ⟨List.mem_of_getElem? (i := 1) rfl, (List.forall_mem_cons.mpr ⟨List.mem_of_getElem? (i := 3) rfl, (List.forall_mem_cons.mpr ⟨List.mem_of_getElem? (i := 4) rfl, (List.forall_mem_cons.mpr ⟨List.mem_of_getElem? (i := 5) rfl, (List.forall_mem_cons.mpr ⟨List.mem_of_getElem? (i := 6) rfl, (List.forall_mem_cons.mpr ⟨List.mem_of_getElem? (i := 7) rfl, (List.forall_mem_cons.mpr ⟨List.mem_of_getElem? (i := 8) rfl, (List.forall_mem_cons.mpr ⟨List.mem_of_getElem? (i := 9) rfl, (fun _ h => absurd h List.not_mem_nil)⟩)⟩)⟩)⟩)⟩)⟩)⟩)⟩)⟩) (ih4115 y4133 (A 21 x4068.toNatClampNeg) x4070 (by omega) (by omega) (by omega) (by omega))
        · skip
          refine g_iload hk dX2_outsideCost_65 rfl ?_
          refine g_istore (lv' := [(6, .int (A 21 x4068.toNatClampNeg)), (9, .int (A 21 x4068.toNatClampNeg)), (8, .int x4068), (7, .int x4069), (5, .int y4066), (4, .int y4060), (0, .ref (q 38)), (1, .int z1), (2, .ref (q 39)), (3, .int z3)]) hk dX2_outsideCost_67 (by decide) rfl ?_
          refine g_goto (tgt := 83) hk dX2_outsideCost_69 (by decide) ?_
          obtain ⟨y4134, ey4134⟩ : ∃ y : Int32, y = x4068 + Int32.ofInt 1 := ⟨_, rfl⟩
          have hy4134 : y4134.toInt = x4068.toInt + 1 := i32_add ey4134 rfl (by decide) (by omega) (by omega)
          refine g_iinc (v := y4134) (lv' := [(8, .int y4134), (6, .int (A 21 x4068.toNatClampNeg)), (9, .int (A 21 x4068.toNatClampNeg)), (7, .int x4069), (5, .int y4066), (4, .int y4060), (0, .ref (q 38)), (1, .int z1), (2, .ref (q 39)), (3, .int z3)]) hk 2 dX2_outsideCost_83 rfl ey4134.symm (by decide) rfl ?_
          refine g_goto (tgt := 45) hk dX2_outsideCost_86 (by decide) ?_
          exact g_lv (List.forall_mem_cons.mpr ⟨List.mem_of_getElem? (i := 0) rfl, (List.forall_mem_cons.mpr ⟨List.mem_of_getElem? (i := 3) rfl, (List.forall_mem_cons.mpr ⟨List.mem_of_getElem? (i := 1) rfl, (List.forall_mem_cons.mpr ⟨List.mem_of_getElem? (i := 4) rfl, (List.forall_mem_cons.mpr ⟨List.mem_of_getElem? (i := 5) rfl, (List.forall_mem_cons.mpr ⟨List.mem_of_getElem? (i := 6) rfl, (List.forall_mem_cons.mpr ⟨List.mem_of_getElem? (i := 7) rfl, (List.forall_mem_cons.mpr ⟨List.mem_of_getElem? (i := 8) rfl, (List.forall_mem_cons.mpr ⟨List.mem_of_getElem? (i := 9) rfl, (fun _ h => absurd h List.not_mem_nil)⟩)⟩)⟩)⟩)⟩)⟩)⟩)⟩)⟩) (ih4115 y4134 x4069 (A 21 x4068.toNatClampNeg) (by omega) (by omega) (by omega) (by omega))
  have b4136l := Int32.le_toInt (A 21 y4060.toNatClampNeg)
  have b4136h := Int32.toInt_lt (A 21 y4060.toNatClampNeg)
  obtain ⟨n4135, n4135a, n4135b⟩ : ∃ n : Nat, 16 - y4067.toInt < (n : Int) ∧ 0 < n := ⟨((16 - y4067.toInt : Int)).toNat + 1, by omega, by omega⟩
  exact lp4112 n4135 y4067 (A 21 y4060.toNatClampNeg) (A 21 y4060.toNatClampNeg) (by omega) (by omega) n4135a n4135b
def wo_k241_X2_envelopeBound : List Cond := [Cond.fieldLink RX2 24 "WarpDesk$Fit" "length" "I", Cond.methodLink RX2 72 yX2_outsideCost, Cond.instanceMethod yX2_outsideCost, Cond.selects RX2 yX2_outsideCost yX2_outsideCost, Cond.initialized RX2]
def wz_k241_X2_envelopeBound : List Cond := .code yX2_envelopeBound cX2_envelopeBound 5 (some .int) :: (wo_k241_X2_envelopeBound ++ (wsX20 ++ (wz_k242_X2_outsideCost ++ ([] : List Cond))))
theorem zg_k241_X2_envelopeBound : ∀ w ∈ wz_k241_X2_envelopeBound, goodWord w = true := zg_cons rfl (zg_app (by decide +kernel) (zg_app zgU_wsX20 (zg_app zg_k242_X2_outsideCost zg_nil)))
theorem zi_k241_X2_envelopeBound : ∀ w ∈ wz_k241_X2_envelopeBound, w ∈ lw_tbl := zi_cons zw_1032 (zi_app (zi_cons zw_343 (zi_cons zw_1033 (zi_cons zw_1035 (zi_cons zw_33 (zi_cons zw_112 zi_nil))))) (zi_app inX2 (zi_app zi_k242_X2_outsideCost zi_nil)))
set_option maxHeartbeats 4000000 in
set_option maxRecDepth 100000 in
theorem k241_X2_envelopeBound (l : Launch) (D : va_G) (zt : Nat × Nat × Nat × (Nat → Nat) × (Nat → Nat)) (q : Nat → Nat) (d : Nat → ClassId) (I : Nat → Int32) (A : Nat → Nat → Int32) (hIv : IvX I A) : GM l D zt (tyX d) yX2_envelopeBound wz_k241_X2_envelopeBound ({ frames := 2, cells := 0, slots := 0, locals := 52 } : Room) [.ref (q 38), .ref (q 40), .ref (q 39)] (wX q d I A) (fun v _ w' => ∃ y0 : Int32, v = some (.int y0) ∧ w' = wX q d I A) 0 0 := by
  refine GM.of (cc := cX2_envelopeBound) (maxL := 5) (ret := (some .int)) (own := RX2) (lv := [(0, .ref (q 38)), (1, .ref (q 40)), (2, .ref (q 39))]) (by decide) rfl rfl (Nat.le_of_ble_eq_true rfl) rfl (fun κ sz hk hR hN => ?_)
  have hin2 : ∀ w ∈ u_ws RX2 TX2 10, w ∈ wz_k241_X2_envelopeBound := fun w h => (List.mem_cons_of_mem _ (List.mem_append_right _ (List.mem_append_left _ h)))
  refine g_iconst (v := 0) hk dX2_envelopeBound_0 (by decide) ?_
  refine g_istore_n (lv' := [(3, .int 0), (0, .ref (q 38)), (1, .ref (q 40)), (2, .ref (q 39))]) hk dX2_envelopeBound_1 (by decide) rfl ?_
  refine g_iconst (v := 0) hk dX2_envelopeBound_2 (by decide) ?_
  refine g_istore (lv' := [(4, .int 0), (3, .int 0), (0, .ref (q 38)), (1, .ref (q 40)), (2, .ref (q 39))]) hk dX2_envelopeBound_3 (by decide) rfl ?_
  have lp4165 : ∀ (n4166 : Nat) (x4050 : Int32) (x4051 : Int32), (0 ≤ x4050.toInt) → (x4050.toInt ≤ 16) → (17 - x4050.toInt < (n4166 : Int)) → (0 < n4166) → GW κ 5 0 0 (wX q d I A) 5 [(4, .int x4050), (3, .int x4051), (0, .ref (q 38)), (1, .ref (q 40)), (2, .ref (q 39))] [] := by
    intro n4166
    induction n4166 with
    | zero =>
      intro x4050 x4051 h4163 h4164 m4167 m4167z
      exact absurd m4167z (Nat.lt_irrefl 0)
    | succ n4166 ih4168 =>
      intro x4050 x4051 h4163 h4164 m4167 m4167z
      refine g_iload hk dX2_envelopeBound_5 rfl ?_
      refine g_aload_n hk dX2_envelopeBound_7 rfl ?_
      refine gX_i30 (v := (I 30)) hk hin2 (List.mem_cons_of_mem _ (List.mem_append_left _ (List.mem_of_getElem? (i := 0) rfl))) dX2_envelopeBound_8 rfl ?_
      have f4169 := IvX_f30 hIv
      refine g_icmp_ge (tgt := 41) (a := x4050.toInt) (b := (I 30).toInt) hk dX2_envelopeBound_11 (by decide) rfl rfl (fun c4170 => ?_) (fun c4170 => ?_)
      · skip
        refine g_iload_n hk dX2_envelopeBound_41 rfl ?_
        have b4171l := Int32.le_toInt x4051
        have b4171h := Int32.toInt_lt x4051
        exact g_iret hk hR rfl ⟨x4051, rfl, rfl⟩ dX2_envelopeBound_42
      · skip
        refine g_iload hk dX2_envelopeBound_14 rfl ?_
        refine g_aload_n hk dX2_envelopeBound_16 rfl ?_
        refine nX_22 hk dX2_envelopeBound_17 ?_
        refine g_icmp_ge (tgt := 41) (a := x4050.toInt) (b := 16) hk dX2_envelopeBound_18 (by decide) rfl rfl (fun z9 => absurd z9 (show ¬ (16 ≤ x4050.toInt) from by omega)) (fun _ => ?_)
        refine g_iload_n hk dX2_envelopeBound_21 rfl ?_
        refine g_aload_n hk dX2_envelopeBound_22 rfl ?_
        refine g_aload_n hk dX2_envelopeBound_23 rfl ?_
        refine g_iload hk dX2_envelopeBound_24 rfl ?_
        refine lX_22 (v := (A 22 x4050.toNatClampNeg)) hk (vp_in_iff.mpr ⟨by omega, by omega⟩) rfl dX2_envelopeBound_26 ?_
        refine g_aload_n hk dX2_envelopeBound_27 rfl ?_
        refine g_iload hk dX2_envelopeBound_28 rfl ?_
        refine g_callV (n := 3) hk (k242_X2_outsideCost l D zt q d I A (A 22 x4050.toNatClampNeg) x4050 hIv (by omega) (by omega)) (SP.same _) (fun _ h => h) (gi_V (List.mem_cons_of_mem _ (List.mem_append_left _ (List.mem_of_getElem? (i := 1) rfl))) (List.mem_cons_of_mem _ (List.mem_append_left _ (List.mem_of_getElem? (i := 2) rfl))) (List.mem_cons_of_mem _ (List.mem_append_left _ (List.mem_of_getElem? (i := 3) rfl))) (List.mem_cons_of_mem _ (List.mem_append_left _ (List.mem_of_getElem? (i := 4) rfl))) (gi_sub (fun w h => (List.mem_cons_of_mem _ (List.mem_append_right _ (List.mem_append_right _ (List.mem_append_left _ h))))) zg_k242_X2_outsideCost)) rfl rfl rfl (by decide +kernel) ⟨Nat.le_of_ble_eq_true rfl, Nat.le_of_ble_eq_true rfl⟩ 38 rfl rfl rfl rfl (Nat.le_of_ble_eq_true rfl) ⟨Nat.le_of_ble_eq_true rfl, Nat.le_of_ble_eq_true rfl⟩ dX2_envelopeBound_30 (fun v ty' w' hp hk' => ?_)
        obtain ⟨y4172, rfl, rfl⟩ := hp
        show GW κ 5 0 0 (wX q d I A) 33 [(4, .int x4050), (3, .int x4051), (0, .ref (q 38)), (1, .ref (q 40)), (2, .ref (q 39))] [.int y4172, .int x4051]
        have b4173l := Int32.le_toInt x4051
        have b4173h := Int32.toInt_lt x4051
        have b4174l := Int32.le_toInt y4172
        have b4174h := Int32.toInt_lt y4172
        refine g_iadd hk dX2_envelopeBound_33 ?_
        refine g_topi (fun y4175 ey4175 => ?_)
        refine g_istore_n (lv' := [(3, .int y4175), (4, .int x4050), (0, .ref (q 38)), (1, .ref (q 40)), (2, .ref (q 39))]) hk dX2_envelopeBound_34 (by decide) rfl ?_
        obtain ⟨y4176, ey4176⟩ : ∃ y : Int32, y = x4050 + Int32.ofInt 1 := ⟨_, rfl⟩
        have hy4176 : y4176.toInt = x4050.toInt + 1 := i32_add ey4176 rfl (by decide) (by omega) (by omega)
        refine g_iinc (v := y4176) (lv' := [(4, .int y4176), (3, .int y4175), (0, .ref (q 38)), (1, .ref (q 40)), (2, .ref (q 39))]) hk 1 dX2_envelopeBound_35 rfl ey4176.symm (by decide) rfl ?_
        refine g_goto (tgt := 5) hk dX2_envelopeBound_38 (by decide) ?_
        exact g_lv (List.forall_mem_cons.mpr ⟨List.mem_of_getElem? (i := 0) rfl, (List.forall_mem_cons.mpr ⟨List.mem_of_getElem? (i := 1) rfl, (List.forall_mem_cons.mpr ⟨List.mem_of_getElem? (i := 2) rfl, (List.forall_mem_cons.mpr ⟨List.mem_of_getElem? (i := 3) rfl, (List.forall_mem_cons.mpr ⟨List.mem_of_getElem? (i := 4) rfl, (fun _ h => absurd h List.not_mem_nil)⟩)⟩)⟩)⟩)⟩) (ih4168 y4176 y4175 (by omega) (by omega) (by omega) (by omega))
  have k4178 : (0 : Int32).toInt = 0 := rfl
  obtain ⟨n4177, n4177a, n4177b⟩ : ∃ n : Nat, 17 - 0 < (n : Int) ∧ 0 < n := ⟨((17 - 0 : Int)).toNat + 1, by omega, by omega⟩
  exact lp4165 n4177 0 0 (by omega) (by omega) n4177a n4177b
def wo_k240_X2_overBound : List Cond := [Cond.fieldLink RX2 15 "WarpDesk$Fit" "right" "[I", Cond.fieldLink RX2 9 "WarpDesk$Fit" "left" "[I", Cond.methodLink RX2 68 yX2_envelopeBound, Cond.instanceMethod yX2_envelopeBound, Cond.selects RX2 yX2_envelopeBound yX2_envelopeBound, Cond.initialized RX2]
def wz_k240_X2_overBound : List Cond := .code yX2_overBound cX2_overBound 1 (some .int) :: (wo_k240_X2_overBound ++ (wsX20 ++ (wz_k241_X2_envelopeBound ++ ([] : List Cond))))
theorem zg_k240_X2_overBound : ∀ w ∈ wz_k240_X2_overBound, goodWord w = true := zg_cons rfl (zg_app (by decide +kernel) (zg_app zgU_wsX20 (zg_app zg_k241_X2_envelopeBound zg_nil)))
theorem zi_k240_X2_overBound : ∀ w ∈ wz_k240_X2_overBound, w ∈ lw_tbl := zi_cons zw_1028 (zi_app (zi_cons zw_337 (zi_cons zw_334 (zi_cons zw_1029 (zi_cons zw_1031 (zi_cons zw_32 (zi_cons zw_112 zi_nil)))))) (zi_app inX2 (zi_app zi_k241_X2_envelopeBound zi_nil)))
set_option maxHeartbeats 4000000 in
set_option maxRecDepth 100000 in
theorem k240_X2_overBound (l : Launch) (D : va_G) (zt : Nat × Nat × Nat × (Nat → Nat) × (Nat → Nat)) (q : Nat → Nat) (d : Nat → ClassId) (I : Nat → Int32) (A : Nat → Nat → Int32) (hIv : IvX I A) : GM l D zt (tyX d) yX2_overBound wz_k240_X2_overBound ({ frames := 3, cells := 0, slots := 0, locals := 76 } : Room) [.ref (q 38)] (wX q d I A) (fun v _ w' => ∃ y0 : Int32, v = some (.int y0) ∧ w' = wX q d I A) 0 0 := by
  refine GM.of (cc := cX2_overBound) (maxL := 1) (ret := (some .int)) (own := RX2) (lv := [(0, .ref (q 38))]) (by decide) rfl rfl (Nat.le_of_ble_eq_true rfl) rfl (fun κ sz hk hR hN => ?_)
  have hin2 : ∀ w ∈ u_ws RX2 TX2 10, w ∈ wz_k240_X2_overBound := fun w h => (List.mem_cons_of_mem _ (List.mem_append_right _ (List.mem_append_left _ h)))
  refine g_aload_n hk dX2_overBound_0 rfl ?_
  refine g_aload_n hk dX2_overBound_1 rfl ?_
  refine gX_r38_1 hk hin2 (List.mem_cons_of_mem _ (List.mem_append_left _ (List.mem_of_getElem? (i := 0) rfl))) dX2_overBound_2 ?_
  refine g_aload_n hk dX2_overBound_5 rfl ?_
  refine gX_r38_0 hk hin2 (List.mem_cons_of_mem _ (List.mem_append_left _ (List.mem_of_getElem? (i := 1) rfl))) dX2_overBound_6 ?_
  refine g_callV (n := 2) hk (k241_X2_envelopeBound l D zt q d I A  hIv) (SP.same _) (fun _ h => h) (gi_V (List.mem_cons_of_mem _ (List.mem_append_left _ (List.mem_of_getElem? (i := 2) rfl))) (List.mem_cons_of_mem _ (List.mem_append_left _ (List.mem_of_getElem? (i := 3) rfl))) (List.mem_cons_of_mem _ (List.mem_append_left _ (List.mem_of_getElem? (i := 4) rfl))) (List.mem_cons_of_mem _ (List.mem_append_left _ (List.mem_of_getElem? (i := 5) rfl))) (gi_sub (fun w h => (List.mem_cons_of_mem _ (List.mem_append_right _ (List.mem_append_right _ (List.mem_append_left _ h))))) zg_k241_X2_envelopeBound)) rfl rfl rfl (by decide +kernel) ⟨Nat.le_of_ble_eq_true rfl, Nat.le_of_ble_eq_true rfl⟩ 38 rfl rfl rfl rfl (Nat.le_of_ble_eq_true rfl) ⟨Nat.le_of_ble_eq_true rfl, Nat.le_of_ble_eq_true rfl⟩ dX2_overBound_9 (fun v ty' w' hp hk' => ?_)
  obtain ⟨y4179, rfl, rfl⟩ := hp
  show GW κ 1 0 0 (wX q d I A) 12 [(0, .ref (q 38))] [.int y4179]
  have b4180l := Int32.le_toInt y4179
  have b4180h := Int32.toInt_lt y4179
  exact g_iret hk hR rfl ⟨y4179, rfl, rfl⟩ dX2_overBound_12
def wo_k245_X2_outsideCost : List Cond := [Cond.fieldLink RX2 37 "WarpDesk$Fit" "band" "I", Cond.methodLink RX2 34 Lib.Math.max.name, Cond.static Lib.Math.max.name, Cond.initialized "java/lang/Math", Cond.code Lib.Math.max.name Lib.Math.max.code 2 (some .int), Cond.fieldLink RX2 24 "WarpDesk$Fit" "length" "I", Cond.methodLink RX2 28 Lib.Math.min.name, Cond.static Lib.Math.min.name, Cond.code Lib.Math.min.name Lib.Math.min.code 2 (some .int), Cond.methodLink RX2 65 yX2_costOf, Cond.instanceMethod yX2_costOf, Cond.selects RX2 yX2_costOf yX2_costOf, Cond.initialized RX2]
def wz_k245_X2_outsideCost : List Cond := .code yX2_outsideCost cX2_outsideCost 10 (some .int) :: (wo_k245_X2_outsideCost ++ (wsX20 ++ (wz_k235_X2_costOf ++ ([] : List Cond))))
theorem zg_k245_X2_outsideCost : ∀ w ∈ wz_k245_X2_outsideCost, goodWord w = true := zg_cons rfl (zg_app (by decide +kernel) (zg_app zgU_wsX20 (zg_app zg_k235_X2_costOf zg_nil)))
theorem zi_k245_X2_outsideCost : ∀ w ∈ wz_k245_X2_outsideCost, w ∈ lw_tbl := zi_cons zw_1036 (zi_app (zi_cons zw_344 (zi_cons zw_943 (zi_cons zw_920 (zi_cons zw_120 (zi_cons zw_921 (zi_cons zw_343 (zi_cons zw_942 (zi_cons zw_829 (zi_cons zw_830 (zi_cons zw_1005 (zi_cons zw_1007 (zi_cons zw_30 (zi_cons zw_112 zi_nil))))))))))))) (zi_app inX2 (zi_app zi_k235_X2_costOf zi_nil)))
set_option maxHeartbeats 4000000 in
set_option maxRecDepth 100000 in
theorem k245_X2_outsideCost (l : Launch) (D : va_G) (zt : Nat × Nat × Nat × (Nat → Nat) × (Nat → Nat)) (q : Nat → Nat) (d : Nat → ClassId) (I : Nat → Int32) (A : Nat → Nat → Int32) (z1 : Int32) (z3 : Int32) (hIv : IvX I A) (hp0 : 0 ≤ z3.toInt) (hp1 : z3.toInt ≤ 15) : GM l D zt (tyX d) yX2_outsideCost wz_k245_X2_outsideCost ({ frames := 1, cells := 0, slots := 0, locals := 23 } : Room) [.ref (q 38), .int z1, .ref (q 40), .int z3] (wX q d I A) (fun v _ w' => ∃ y0 : Int32, v = some (.int y0) ∧ w' = wX q d I A) 0 0 := by
  refine GM.of (cc := cX2_outsideCost) (maxL := 10) (ret := (some .int)) (own := RX2) (lv := [(0, .ref (q 38)), (1, .int z1), (2, .ref (q 40)), (3, .int z3)]) (by decide) rfl rfl (Nat.le_of_ble_eq_true rfl) rfl (fun κ sz hk hR hN => ?_)
  have hin2 : ∀ w ∈ u_ws RX2 TX2 10, w ∈ wz_k245_X2_outsideCost := fun w h => (List.mem_cons_of_mem _ (List.mem_append_right _ (List.mem_append_left _ h)))
  refine g_iconst (v := 0) hk dX2_outsideCost_0 (by decide) ?_
  refine g_iload_n hk dX2_outsideCost_1 rfl ?_
  refine g_aload_n hk dX2_outsideCost_2 rfl ?_
  refine gX_i31 (v := (I 31)) hk hin2 (List.mem_cons_of_mem _ (List.mem_append_left _ (List.mem_of_getElem? (i := 0) rfl))) dX2_outsideCost_3 rfl ?_
  have f4191 := IvX_f31 hIv
  have b4192l := Int32.le_toInt (I 31)
  have b4192h := Int32.toInt_lt (I 31)
  refine g_isub hk dX2_outsideCost_6 ?_
  refine g_topi (fun y4193 ey4193 => ?_)
  have hy4193 : y4193.toInt = z3.toInt - (I 31).toInt := i32_sub ey4193 rfl rfl (by omega) (by omega)
  refine g_mmax hk (List.mem_cons_of_mem _ (List.mem_append_left _ (List.mem_of_getElem? (i := 1) rfl))) (List.mem_cons_of_mem _ (List.mem_append_left _ (List.mem_of_getElem? (i := 2) rfl))) (List.mem_cons_of_mem _ (List.mem_append_left _ (List.mem_of_getElem? (i := 3) rfl))) (List.mem_cons_of_mem _ (List.mem_append_left _ (List.mem_of_getElem? (i := 4) rfl))) (Nat.le_of_ble_eq_true rfl) (Nat.le_of_ble_eq_true rfl) (Nat.le_of_ble_eq_true rfl) (Nat.le_of_ble_eq_true rfl) dX2_outsideCost_7 ?_
  refine g_topi (fun y4194 ey4194 => ?_)
  have k4195 : (0 : Int32).toInt = 0 := rfl
  have hy4194 := i32_max ey4194
  refine g_istore (lv' := [(4, .int y4194), (0, .ref (q 38)), (1, .int z1), (2, .ref (q 40)), (3, .int z3)]) hk dX2_outsideCost_10 (by decide) rfl ?_
  refine g_aload_n hk dX2_outsideCost_12 rfl ?_
  refine gX_i30 (v := (I 30)) hk hin2 (List.mem_cons_of_mem _ (List.mem_append_left _ (List.mem_of_getElem? (i := 5) rfl))) dX2_outsideCost_13 rfl ?_
  have f4196 := IvX_f30 hIv
  refine g_iconst (v := 1) hk dX2_outsideCost_16 (by decide) ?_
  refine g_isub hk dX2_outsideCost_17 ?_
  refine g_topi (fun y4197 ey4197 => ?_)
  have hy4197 : y4197.toInt = (I 30).toInt - 1 := i32_sub ey4197 rfl rfl (by omega) (by omega)
  refine g_iload_n hk dX2_outsideCost_18 rfl ?_
  refine g_aload_n hk dX2_outsideCost_19 rfl ?_
  refine gX_i31 (v := (I 31)) hk hin2 (List.mem_cons_of_mem _ (List.mem_append_left _ (List.mem_of_getElem? (i := 0) rfl))) dX2_outsideCost_20 rfl ?_
  refine g_iadd hk dX2_outsideCost_23 ?_
  refine g_topi (fun y4198 ey4198 => ?_)
  have b4199l := Int32.le_toInt y4198
  have b4199h := Int32.toInt_lt y4198
  refine g_mmin hk (List.mem_cons_of_mem _ (List.mem_append_left _ (List.mem_of_getElem? (i := 6) rfl))) (List.mem_cons_of_mem _ (List.mem_append_left _ (List.mem_of_getElem? (i := 7) rfl))) (List.mem_cons_of_mem _ (List.mem_append_left _ (List.mem_of_getElem? (i := 3) rfl))) (List.mem_cons_of_mem _ (List.mem_append_left _ (List.mem_of_getElem? (i := 8) rfl))) (Nat.le_of_ble_eq_true rfl) (Nat.le_of_ble_eq_true rfl) (Nat.le_of_ble_eq_true rfl) (Nat.le_of_ble_eq_true rfl) dX2_outsideCost_24 ?_
  refine g_topi (fun y4200 ey4200 => ?_)
  have hy4200 := i32_min ey4200
  refine g_istore (lv' := [(5, .int y4200), (4, .int y4194), (0, .ref (q 38)), (1, .int z1), (2, .ref (q 40)), (3, .int z3)]) hk dX2_outsideCost_27 (by decide) rfl ?_
  refine g_aload_n hk dX2_outsideCost_29 rfl ?_
  refine g_iload hk dX2_outsideCost_30 rfl ?_
  refine lX_22 (v := (A 22 y4194.toNatClampNeg)) hk (vp_in_iff.mpr ⟨by omega, by omega⟩) rfl dX2_outsideCost_32 ?_
  refine g_istore (lv' := [(6, .int (A 22 y4194.toNatClampNeg)), (5, .int y4200), (4, .int y4194), (0, .ref (q 38)), (1, .int z1), (2, .ref (q 40)), (3, .int z3)]) hk dX2_outsideCost_33 (by decide) rfl ?_
  refine g_iload hk dX2_outsideCost_35 rfl ?_
  refine g_istore (lv' := [(7, .int (A 22 y4194.toNatClampNeg)), (6, .int (A 22 y4194.toNatClampNeg)), (5, .int y4200), (4, .int y4194), (0, .ref (q 38)), (1, .int z1), (2, .ref (q 40)), (3, .int z3)]) hk dX2_outsideCost_37 (by decide) rfl ?_
  refine g_iload hk dX2_outsideCost_39 rfl ?_
  refine g_iconst (v := 1) hk dX2_outsideCost_41 (by decide) ?_
  refine g_iadd hk dX2_outsideCost_42 ?_
  refine g_topi (fun y4201 ey4201 => ?_)
  have hy4201 : y4201.toInt = y4194.toInt + 1 := i32_add ey4201 rfl rfl (by omega) (by omega)
  refine g_istore (lv' := [(8, .int y4201), (7, .int (A 22 y4194.toNatClampNeg)), (6, .int (A 22 y4194.toNatClampNeg)), (5, .int y4200), (4, .int y4194), (0, .ref (q 38)), (1, .int z1), (2, .ref (q 40)), (3, .int z3)]) hk dX2_outsideCost_43 (by decide) rfl ?_
  have lp4246 : ∀ (n4247 : Nat) (x4202 : Int32) (x4203 : Int32) (x4204 : Int32), (1 ≤ x4202.toInt) → (x4202.toInt ≤ 16) → (16 - x4202.toInt < (n4247 : Int)) → (0 < n4247) → GW κ 10 0 0 (wX q d I A) 45 [(8, .int x4202), (7, .int x4203), (6, .int x4204), (5, .int y4200), (4, .int y4194), (0, .ref (q 38)), (1, .int z1), (2, .ref (q 40)), (3, .int z3)] [] := by
    intro n4247
    induction n4247 with
    | zero =>
      intro x4202 x4203 x4204 h4244 h4245 m4248 m4248z
      exact absurd m4248z (Nat.lt_irrefl 0)
    | succ n4247 ih4249 =>
      intro x4202 x4203 x4204 h4244 h4245 m4248 m4248z
      refine g_iload hk dX2_outsideCost_45 rfl ?_
      refine g_iload hk dX2_outsideCost_47 rfl ?_
      have b4250l := Int32.le_toInt y4200
      have b4250h := Int32.toInt_lt y4200
      refine g_icmp_gt (tgt := 89) (a := x4202.toInt) (b := y4200.toInt) hk dX2_outsideCost_49 (by decide) rfl rfl (fun c4251 => ?_) (fun c4251 => ?_)
      · skip
        refine g_iload_n hk dX2_outsideCost_89 rfl ?_
        refine g_iload hk dX2_outsideCost_90 rfl ?_
        have b4252l := Int32.le_toInt z1
        have b4252h := Int32.toInt_lt z1
        have b4253l := Int32.le_toInt x4203
        have b4253h := Int32.toInt_lt x4203
        refine g_icmp_le (tgt := 103) (a := z1.toInt) (b := x4203.toInt) hk dX2_outsideCost_92 (by decide) rfl rfl (fun c4254 => ?_) (fun c4254 => ?_)
        · skip
          refine g_iload_n hk dX2_outsideCost_103 rfl ?_
          refine g_iload hk dX2_outsideCost_104 rfl ?_
          have b4255l := Int32.le_toInt x4204
          have b4255h := Int32.toInt_lt x4204
          refine g_icmp_ge (tgt := 119) (a := z1.toInt) (b := x4204.toInt) hk dX2_outsideCost_106 (by decide) rfl rfl (fun c4256 => ?_) (fun c4256 => ?_)
          · skip
            refine g_iconst (v := 0) hk dX2_outsideCost_119 (by decide) ?_
            exact g_iret hk hR rfl ⟨0, rfl, rfl⟩ dX2_outsideCost_120
          · skip
            refine g_aload_n hk dX2_outsideCost_109 rfl ?_
            refine g_iload_n hk dX2_outsideCost_110 rfl ?_
            refine g_iload hk dX2_outsideCost_111 rfl ?_
            refine g_callV (n := 2) hk (k235_X2_costOf l D zt q d I A z1 x4204 hIv) (SP.same _) (fun _ h => h) (gi_V (List.mem_cons_of_mem _ (List.mem_append_left _ (List.mem_of_getElem? (i := 9) rfl))) (List.mem_cons_of_mem _ (List.mem_append_left _ (List.mem_of_getElem? (i := 10) rfl))) (List.mem_cons_of_mem _ (List.mem_append_left _ (List.mem_of_getElem? (i := 11) rfl))) (List.mem_cons_of_mem _ (List.mem_append_left _ (List.mem_of_getElem? (i := 12) rfl))) (gi_sub (fun w h => (List.mem_cons_of_mem _ (List.mem_append_right _ (List.mem_append_right _ (List.mem_append_left _ h))))) zg_k235_X2_costOf)) rfl rfl rfl (by decide +kernel) ⟨Nat.le_of_ble_eq_true rfl, Nat.le_of_ble_eq_true rfl⟩ 38 rfl rfl rfl rfl (Nat.le_of_ble_eq_true rfl) ⟨Nat.le_of_ble_eq_true rfl, Nat.le_of_ble_eq_true rfl⟩ dX2_outsideCost_113 (fun v ty' w' hp hk' => ?_)
            obtain ⟨y4257, rfl, rfl⟩ := hp
            show GW κ 10 0 0 (wX q d I A) 116 [(8, .int x4202), (7, .int x4203), (6, .int x4204), (5, .int y4200), (4, .int y4194), (0, .ref (q 38)), (1, .int z1), (2, .ref (q 40)), (3, .int z3)] [.int y4257]
            refine g_goto (tgt := 120) hk dX2_outsideCost_116 (by decide) ?_
            have b4258l := Int32.le_toInt y4257
            have b4258h := Int32.toInt_lt y4257
            exact g_iret hk hR rfl ⟨y4257, rfl, rfl⟩ dX2_outsideCost_120
        · skip
          refine g_aload_n hk dX2_outsideCost_95 rfl ?_
          refine g_iload_n hk dX2_outsideCost_96 rfl ?_
          refine g_iload hk dX2_outsideCost_97 rfl ?_
          refine g_callV (n := 2) hk (k235_X2_costOf l D zt q d I A z1 x4203 hIv) (SP.same _) (fun _ h => h) (gi_V (List.mem_cons_of_mem _ (List.mem_append_left _ (List.mem_of_getElem? (i := 9) rfl))) (List.mem_cons_of_mem _ (List.mem_append_left _ (List.mem_of_getElem? (i := 10) rfl))) (List.mem_cons_of_mem _ (List.mem_append_left _ (List.mem_of_getElem? (i := 11) rfl))) (List.mem_cons_of_mem _ (List.mem_append_left _ (List.mem_of_getElem? (i := 12) rfl))) (gi_sub (fun w h => (List.mem_cons_of_mem _ (List.mem_append_right _ (List.mem_append_right _ (List.mem_append_left _ h))))) zg_k235_X2_costOf)) rfl rfl rfl (by decide +kernel) ⟨Nat.le_of_ble_eq_true rfl, Nat.le_of_ble_eq_true rfl⟩ 38 rfl rfl rfl rfl (Nat.le_of_ble_eq_true rfl) ⟨Nat.le_of_ble_eq_true rfl, Nat.le_of_ble_eq_true rfl⟩ dX2_outsideCost_99 (fun v ty' w' hp hk' => ?_)
          obtain ⟨y4259, rfl, rfl⟩ := hp
          show GW κ 10 0 0 (wX q d I A) 102 [(8, .int x4202), (7, .int x4203), (6, .int x4204), (5, .int y4200), (4, .int y4194), (0, .ref (q 38)), (1, .int z1), (2, .ref (q 40)), (3, .int z3)] [.int y4259]
          have b4260l := Int32.le_toInt y4259
          have b4260h := Int32.toInt_lt y4259
          exact g_iret hk hR rfl ⟨y4259, rfl, rfl⟩ dX2_outsideCost_102
      · skip
        refine g_aload_n hk dX2_outsideCost_52 rfl ?_
        refine g_iload hk dX2_outsideCost_53 rfl ?_
        refine lX_22 (v := (A 22 x4202.toNatClampNeg)) hk (vp_in_iff.mpr ⟨by omega, by omega⟩) rfl dX2_outsideCost_55 ?_
        refine g_istore (lv' := [(9, .int (A 22 x4202.toNatClampNeg)), (8, .int x4202), (7, .int x4203), (6, .int x4204), (5, .int y4200), (4, .int y4194), (0, .ref (q 38)), (1, .int z1), (2, .ref (q 40)), (3, .int z3)]) hk dX2_outsideCost_56 (by decide) rfl ?_
        refine g_iload hk dX2_outsideCost_58 rfl ?_
        refine g_iload hk dX2_outsideCost_60 rfl ?_
        have b4261l := Int32.le_toInt (A 22 x4202.toNatClampNeg)
        have b4261h := Int32.toInt_lt (A 22 x4202.toNatClampNeg)
        have b4262l := Int32.le_toInt x4204
        have b4262h := Int32.toInt_lt x4204
        refine g_icmp_ge (tgt := 72) (a := (A 22 x4202.toNatClampNeg).toInt) (b := x4204.toInt) hk dX2_outsideCost_62 (by decide) rfl rfl (fun c4263 => ?_) (fun c4263 => ?_)
        · skip
          refine g_iload hk dX2_outsideCost_72 rfl ?_
          refine g_iload hk dX2_outsideCost_74 rfl ?_
          have b4264l := Int32.le_toInt x4203
          have b4264h := Int32.toInt_lt x4203
          refine g_icmp_le (tgt := 83) (a := (A 22 x4202.toNatClampNeg).toInt) (b := x4203.toInt) hk dX2_outsideCost_76 (by decide) rfl rfl (fun c4265 => ?_) (fun c4265 => ?_)
          · skip
            obtain ⟨y4266, ey4266⟩ : ∃ y : Int32, y = x4202 + Int32.ofInt 1 := ⟨_, rfl⟩
            have hy4266 : y4266.toInt = x4202.toInt + 1 := i32_add ey4266 rfl (by decide) (by omega) (by omega)
            refine g_iinc (v := y4266) (lv' := [(8, .int y4266), (9, .int (A 22 x4202.toNatClampNeg)), (7, .int x4203), (6, .int x4204), (5, .int y4200), (4, .int y4194), (0, .ref (q 38)), (1, .int z1), (2, .ref (q 40)), (3, .int z3)]) hk 1 dX2_outsideCost_83 rfl ey4266.symm (by decide) rfl ?_
            refine g_goto (tgt := 45) hk dX2_outsideCost_86 (by decide) ?_
            exact g_lv (List.forall_mem_cons.mpr ⟨List.mem_of_getElem? (i := 0) rfl, (List.forall_mem_cons.mpr ⟨List.mem_of_getElem? (i := 2) rfl, (List.forall_mem_cons.mpr ⟨List.mem_of_getElem? (i := 3) rfl, (List.forall_mem_cons.mpr ⟨List.mem_of_getElem? (i := 4) rfl, (List.forall_mem_cons.mpr ⟨List.mem_of_getElem? (i := 5) rfl, (List.forall_mem_cons.mpr ⟨List.mem_of_getElem? (i := 6) rfl, (List.forall_mem_cons.mpr ⟨List.mem_of_getElem? (i := 7) rfl, (List.forall_mem_cons.mpr ⟨List.mem_of_getElem? (i := 8) rfl, (List.forall_mem_cons.mpr ⟨List.mem_of_getElem? (i := 9) rfl, (fun _ h => absurd h List.not_mem_nil)⟩)⟩)⟩)⟩)⟩)⟩)⟩)⟩)⟩) (ih4249 y4266 x4203 x4204 (by omega) (by omega) (by omega) (by omega))
          · skip
            refine g_iload hk dX2_outsideCost_79 rfl ?_
            refine g_istore (lv' := [(7, .int (A 22 x4202.toNatClampNeg)), (9, .int (A 22 x4202.toNatClampNeg)), (8, .int x4202), (6, .int x4204), (5, .int y4200), (4, .int y4194), (0, .ref (q 38)), (1, .int z1), (2, .ref (q 40)), (3, .int z3)]) hk dX2_outsideCost_81 (by decide) rfl ?_
            obtain ⟨y4267, ey4267⟩ : ∃ y : Int32, y = x4202 + Int32.ofInt 1 := ⟨_, rfl⟩
            have hy4267 : y4267.toInt = x4202.toInt + 1 := i32_add ey4267 rfl (by decide) (by omega) (by omega)
            refine g_iinc (v := y4267) (lv' := [(8, .int y4267), (7, .int (A 22 x4202.toNatClampNeg)), (9, .int (A 22 x4202.toNatClampNeg)), (6, .int x4204), (5, .int y4200), (4, .int y4194), (0, .ref (q 38)), (1, .int z1), (2, .ref (q 40)), (3, .int z3)]) hk 2 dX2_outsideCost_83 rfl ey4267.symm (by decide) rfl ?_
            refine g_goto (tgt := 45) hk dX2_outsideCost_86 (by decide) ?_
            exact g_lv (List.forall_mem_cons.mpr ⟨List.mem_of_getElem? (i := 0) rfl, (List.forall_mem_cons.mpr ⟨List.mem_of_getElem? (i := 1) rfl, (List.forall_mem_cons.mpr ⟨List.mem_of_getElem? (i := 3) rfl, (List.forall_mem_cons.mpr ⟨List.mem_of_getElem? (i := 4) rfl, (List.forall_mem_cons.mpr ⟨List.mem_of_getElem? (i := 5) rfl, (List.forall_mem_cons.mpr ⟨List.mem_of_getElem? (i := 6) rfl, (List.forall_mem_cons.mpr ⟨List.mem_of_getElem? (i := 7) rfl, (List.forall_mem_cons.mpr ⟨List.mem_of_getElem? (i := 8) rfl, (List.forall_mem_cons.mpr ⟨List.mem_of_getElem? (i := 9) rfl, (fun _ h => absurd h List.not_mem_nil)⟩)⟩)⟩)⟩)⟩)⟩)⟩)⟩)⟩) (ih4249 y4267 (A 22 x4202.toNatClampNeg) x4204 (by omega) (by omega) (by omega) (by omega))
        · skip
          refine g_iload hk dX2_outsideCost_65 rfl ?_
          refine g_istore (lv' := [(6, .int (A 22 x4202.toNatClampNeg)), (9, .int (A 22 x4202.toNatClampNeg)), (8, .int x4202), (7, .int x4203), (5, .int y4200), (4, .int y4194), (0, .ref (q 38)), (1, .int z1), (2, .ref (q 40)), (3, .int z3)]) hk dX2_outsideCost_67 (by decide) rfl ?_
          refine g_goto (tgt := 83) hk dX2_outsideCost_69 (by decide) ?_
          obtain ⟨y4268, ey4268⟩ : ∃ y : Int32, y = x4202 + Int32.ofInt 1 := ⟨_, rfl⟩
          have hy4268 : y4268.toInt = x4202.toInt + 1 := i32_add ey4268 rfl (by decide) (by omega) (by omega)
          refine g_iinc (v := y4268) (lv' := [(8, .int y4268), (6, .int (A 22 x4202.toNatClampNeg)), (9, .int (A 22 x4202.toNatClampNeg)), (7, .int x4203), (5, .int y4200), (4, .int y4194), (0, .ref (q 38)), (1, .int z1), (2, .ref (q 40)), (3, .int z3)]) hk 2 dX2_outsideCost_83 rfl ey4268.symm (by decide) rfl ?_
          refine g_goto (tgt := 45) hk dX2_outsideCost_86 (by decide) ?_
          exact g_lv (List.forall_mem_cons.mpr ⟨List.mem_of_getElem? (i := 0) rfl, (List.forall_mem_cons.mpr ⟨List.mem_of_getElem? (i := 3) rfl, (List.forall_mem_cons.mpr ⟨List.mem_of_getElem? (i := 1) rfl, (List.forall_mem_cons.mpr ⟨List.mem_of_getElem? (i := 4) rfl, (List.forall_mem_cons.mpr ⟨List.mem_of_getElem? (i := 5) rfl, (List.forall_mem_cons.mpr ⟨List.mem_of_getElem? (i := 6) rfl, (List.forall_mem_cons.mpr ⟨List.mem_of_getElem? (i := 7) rfl, (List.forall_mem_cons.mpr ⟨List.mem_of_getElem? (i := 8) rfl, (List.forall_mem_cons.mpr ⟨List.mem_of_getElem? (i := 9) rfl, (fun _ h => absurd h List.not_mem_nil)⟩)⟩)⟩)⟩)⟩)⟩)⟩)⟩)⟩) (ih4249 y4268 x4203 (A 22 x4202.toNatClampNeg) (by omega) (by omega) (by omega) (by omega))
  have b4270l := Int32.le_toInt (A 22 y4194.toNatClampNeg)
  have b4270h := Int32.toInt_lt (A 22 y4194.toNatClampNeg)
  obtain ⟨n4269, n4269a, n4269b⟩ : ∃ n : Nat, 16 - y4201.toInt < (n : Int) ∧ 0 < n := ⟨((16 - y4201.toInt : Int)).toNat + 1, by omega, by omega⟩
  exact lp4246 n4269 y4201 (A 22 y4194.toNatClampNeg) (A 22 y4194.toNatClampNeg) (by omega) (by omega) n4269a n4269b
def wo_k244_X2_envelopeBound : List Cond := [Cond.fieldLink RX2 24 "WarpDesk$Fit" "length" "I", Cond.methodLink RX2 72 yX2_outsideCost, Cond.instanceMethod yX2_outsideCost, Cond.selects RX2 yX2_outsideCost yX2_outsideCost, Cond.initialized RX2]
def wz_k244_X2_envelopeBound : List Cond := .code yX2_envelopeBound cX2_envelopeBound 5 (some .int) :: (wo_k244_X2_envelopeBound ++ (wsX20 ++ (wz_k245_X2_outsideCost ++ ([] : List Cond))))
theorem zg_k244_X2_envelopeBound : ∀ w ∈ wz_k244_X2_envelopeBound, goodWord w = true := zg_cons rfl (zg_app (by decide +kernel) (zg_app zgU_wsX20 (zg_app zg_k245_X2_outsideCost zg_nil)))
theorem zi_k244_X2_envelopeBound : ∀ w ∈ wz_k244_X2_envelopeBound, w ∈ lw_tbl := zi_cons zw_1032 (zi_app (zi_cons zw_343 (zi_cons zw_1033 (zi_cons zw_1035 (zi_cons zw_33 (zi_cons zw_112 zi_nil))))) (zi_app inX2 (zi_app zi_k245_X2_outsideCost zi_nil)))
set_option maxHeartbeats 4000000 in
set_option maxRecDepth 100000 in
theorem k244_X2_envelopeBound (l : Launch) (D : va_G) (zt : Nat × Nat × Nat × (Nat → Nat) × (Nat → Nat)) (q : Nat → Nat) (d : Nat → ClassId) (I : Nat → Int32) (A : Nat → Nat → Int32) (hIv : IvX I A) : GM l D zt (tyX d) yX2_envelopeBound wz_k244_X2_envelopeBound ({ frames := 2, cells := 0, slots := 0, locals := 52 } : Room) [.ref (q 38), .ref (q 39), .ref (q 40)] (wX q d I A) (fun v _ w' => ∃ y0 : Int32, v = some (.int y0) ∧ w' = wX q d I A) 0 0 := by
  refine GM.of (cc := cX2_envelopeBound) (maxL := 5) (ret := (some .int)) (own := RX2) (lv := [(0, .ref (q 38)), (1, .ref (q 39)), (2, .ref (q 40))]) (by decide) rfl rfl (Nat.le_of_ble_eq_true rfl) rfl (fun κ sz hk hR hN => ?_)
  have hin2 : ∀ w ∈ u_ws RX2 TX2 10, w ∈ wz_k244_X2_envelopeBound := fun w h => (List.mem_cons_of_mem _ (List.mem_append_right _ (List.mem_append_left _ h)))
  refine g_iconst (v := 0) hk dX2_envelopeBound_0 (by decide) ?_
  refine g_istore_n (lv' := [(3, .int 0), (0, .ref (q 38)), (1, .ref (q 39)), (2, .ref (q 40))]) hk dX2_envelopeBound_1 (by decide) rfl ?_
  refine g_iconst (v := 0) hk dX2_envelopeBound_2 (by decide) ?_
  refine g_istore (lv' := [(4, .int 0), (3, .int 0), (0, .ref (q 38)), (1, .ref (q 39)), (2, .ref (q 40))]) hk dX2_envelopeBound_3 (by decide) rfl ?_
  have lp4299 : ∀ (n4300 : Nat) (x4184 : Int32) (x4185 : Int32), (0 ≤ x4184.toInt) → (x4184.toInt ≤ 16) → (17 - x4184.toInt < (n4300 : Int)) → (0 < n4300) → GW κ 5 0 0 (wX q d I A) 5 [(4, .int x4184), (3, .int x4185), (0, .ref (q 38)), (1, .ref (q 39)), (2, .ref (q 40))] [] := by
    intro n4300
    induction n4300 with
    | zero =>
      intro x4184 x4185 h4297 h4298 m4301 m4301z
      exact absurd m4301z (Nat.lt_irrefl 0)
    | succ n4300 ih4302 =>
      intro x4184 x4185 h4297 h4298 m4301 m4301z
      refine g_iload hk dX2_envelopeBound_5 rfl ?_
      refine g_aload_n hk dX2_envelopeBound_7 rfl ?_
      refine gX_i30 (v := (I 30)) hk hin2 (List.mem_cons_of_mem _ (List.mem_append_left _ (List.mem_of_getElem? (i := 0) rfl))) dX2_envelopeBound_8 rfl ?_
      have f4303 := IvX_f30 hIv
      refine g_icmp_ge (tgt := 41) (a := x4184.toInt) (b := (I 30).toInt) hk dX2_envelopeBound_11 (by decide) rfl rfl (fun c4304 => ?_) (fun c4304 => ?_)
      · skip
        refine g_iload_n hk dX2_envelopeBound_41 rfl ?_
        have b4305l := Int32.le_toInt x4185
        have b4305h := Int32.toInt_lt x4185
        exact g_iret hk hR rfl ⟨x4185, rfl, rfl⟩ dX2_envelopeBound_42
      · skip
        refine g_iload hk dX2_envelopeBound_14 rfl ?_
        refine g_aload_n hk dX2_envelopeBound_16 rfl ?_
        refine nX_21 hk dX2_envelopeBound_17 ?_
        refine g_icmp_ge (tgt := 41) (a := x4184.toInt) (b := 16) hk dX2_envelopeBound_18 (by decide) rfl rfl (fun z9 => absurd z9 (show ¬ (16 ≤ x4184.toInt) from by omega)) (fun _ => ?_)
        refine g_iload_n hk dX2_envelopeBound_21 rfl ?_
        refine g_aload_n hk dX2_envelopeBound_22 rfl ?_
        refine g_aload_n hk dX2_envelopeBound_23 rfl ?_
        refine g_iload hk dX2_envelopeBound_24 rfl ?_
        refine lX_21 (v := (A 21 x4184.toNatClampNeg)) hk (vp_in_iff.mpr ⟨by omega, by omega⟩) rfl dX2_envelopeBound_26 ?_
        refine g_aload_n hk dX2_envelopeBound_27 rfl ?_
        refine g_iload hk dX2_envelopeBound_28 rfl ?_
        refine g_callV (n := 3) hk (k245_X2_outsideCost l D zt q d I A (A 21 x4184.toNatClampNeg) x4184 hIv (by omega) (by omega)) (SP.same _) (fun _ h => h) (gi_V (List.mem_cons_of_mem _ (List.mem_append_left _ (List.mem_of_getElem? (i := 1) rfl))) (List.mem_cons_of_mem _ (List.mem_append_left _ (List.mem_of_getElem? (i := 2) rfl))) (List.mem_cons_of_mem _ (List.mem_append_left _ (List.mem_of_getElem? (i := 3) rfl))) (List.mem_cons_of_mem _ (List.mem_append_left _ (List.mem_of_getElem? (i := 4) rfl))) (gi_sub (fun w h => (List.mem_cons_of_mem _ (List.mem_append_right _ (List.mem_append_right _ (List.mem_append_left _ h))))) zg_k245_X2_outsideCost)) rfl rfl rfl (by decide +kernel) ⟨Nat.le_of_ble_eq_true rfl, Nat.le_of_ble_eq_true rfl⟩ 38 rfl rfl rfl rfl (Nat.le_of_ble_eq_true rfl) ⟨Nat.le_of_ble_eq_true rfl, Nat.le_of_ble_eq_true rfl⟩ dX2_envelopeBound_30 (fun v ty' w' hp hk' => ?_)
        obtain ⟨y4306, rfl, rfl⟩ := hp
        show GW κ 5 0 0 (wX q d I A) 33 [(4, .int x4184), (3, .int x4185), (0, .ref (q 38)), (1, .ref (q 39)), (2, .ref (q 40))] [.int y4306, .int x4185]
        have b4307l := Int32.le_toInt x4185
        have b4307h := Int32.toInt_lt x4185
        have b4308l := Int32.le_toInt y4306
        have b4308h := Int32.toInt_lt y4306
        refine g_iadd hk dX2_envelopeBound_33 ?_
        refine g_topi (fun y4309 ey4309 => ?_)
        refine g_istore_n (lv' := [(3, .int y4309), (4, .int x4184), (0, .ref (q 38)), (1, .ref (q 39)), (2, .ref (q 40))]) hk dX2_envelopeBound_34 (by decide) rfl ?_
        obtain ⟨y4310, ey4310⟩ : ∃ y : Int32, y = x4184 + Int32.ofInt 1 := ⟨_, rfl⟩
        have hy4310 : y4310.toInt = x4184.toInt + 1 := i32_add ey4310 rfl (by decide) (by omega) (by omega)
        refine g_iinc (v := y4310) (lv' := [(4, .int y4310), (3, .int y4309), (0, .ref (q 38)), (1, .ref (q 39)), (2, .ref (q 40))]) hk 1 dX2_envelopeBound_35 rfl ey4310.symm (by decide) rfl ?_
        refine g_goto (tgt := 5) hk dX2_envelopeBound_38 (by decide) ?_
        exact g_lv (List.forall_mem_cons.mpr ⟨List.mem_of_getElem? (i := 0) rfl, (List.forall_mem_cons.mpr ⟨List.mem_of_getElem? (i := 1) rfl, (List.forall_mem_cons.mpr ⟨List.mem_of_getElem? (i := 2) rfl, (List.forall_mem_cons.mpr ⟨List.mem_of_getElem? (i := 3) rfl, (List.forall_mem_cons.mpr ⟨List.mem_of_getElem? (i := 4) rfl, (fun _ h => absurd h List.not_mem_nil)⟩)⟩)⟩)⟩)⟩) (ih4302 y4310 y4309 (by omega) (by omega) (by omega) (by omega))
  have k4312 : (0 : Int32).toInt = 0 := rfl
  obtain ⟨n4311, n4311a, n4311b⟩ : ∃ n : Nat, 17 - 0 < (n : Int) ∧ 0 < n := ⟨((17 - 0 : Int)).toNat + 1, by omega, by omega⟩
  exact lp4299 n4311 0 0 (by omega) (by omega) n4311a n4311b
def wo_k243_X2_backBound : List Cond := [Cond.fieldLink RX2 9 "WarpDesk$Fit" "left" "[I", Cond.fieldLink RX2 15 "WarpDesk$Fit" "right" "[I", Cond.methodLink RX2 68 yX2_envelopeBound, Cond.instanceMethod yX2_envelopeBound, Cond.selects RX2 yX2_envelopeBound yX2_envelopeBound, Cond.initialized RX2]
def wz_k243_X2_backBound : List Cond := .code yX2_backBound cX2_backBound 1 (some .int) :: (wo_k243_X2_backBound ++ (wsX20 ++ (wz_k244_X2_envelopeBound ++ ([] : List Cond))))
theorem zg_k243_X2_backBound : ∀ w ∈ wz_k243_X2_backBound, goodWord w = true := zg_cons rfl (zg_app (by decide +kernel) (zg_app zgU_wsX20 (zg_app zg_k244_X2_envelopeBound zg_nil)))
theorem zi_k243_X2_backBound : ∀ w ∈ wz_k243_X2_backBound, w ∈ lw_tbl := zi_cons zw_1040 (zi_app (zi_cons zw_334 (zi_cons zw_337 (zi_cons zw_1029 (zi_cons zw_1031 (zi_cons zw_32 (zi_cons zw_112 zi_nil)))))) (zi_app inX2 (zi_app zi_k244_X2_envelopeBound zi_nil)))
set_option maxHeartbeats 4000000 in
set_option maxRecDepth 100000 in
theorem k243_X2_backBound (l : Launch) (D : va_G) (zt : Nat × Nat × Nat × (Nat → Nat) × (Nat → Nat)) (q : Nat → Nat) (d : Nat → ClassId) (I : Nat → Int32) (A : Nat → Nat → Int32) (hIv : IvX I A) : GM l D zt (tyX d) yX2_backBound wz_k243_X2_backBound ({ frames := 3, cells := 0, slots := 0, locals := 76 } : Room) [.ref (q 38)] (wX q d I A) (fun v _ w' => ∃ y0 : Int32, v = some (.int y0) ∧ w' = wX q d I A) 0 0 := by
  refine GM.of (cc := cX2_backBound) (maxL := 1) (ret := (some .int)) (own := RX2) (lv := [(0, .ref (q 38))]) (by decide) rfl rfl (Nat.le_of_ble_eq_true rfl) rfl (fun κ sz hk hR hN => ?_)
  have hin2 : ∀ w ∈ u_ws RX2 TX2 10, w ∈ wz_k243_X2_backBound := fun w h => (List.mem_cons_of_mem _ (List.mem_append_right _ (List.mem_append_left _ h)))
  refine g_aload_n hk dX2_backBound_0 rfl ?_
  refine g_aload_n hk dX2_backBound_1 rfl ?_
  refine gX_r38_0 hk hin2 (List.mem_cons_of_mem _ (List.mem_append_left _ (List.mem_of_getElem? (i := 0) rfl))) dX2_backBound_2 ?_
  refine g_aload_n hk dX2_backBound_5 rfl ?_
  refine gX_r38_1 hk hin2 (List.mem_cons_of_mem _ (List.mem_append_left _ (List.mem_of_getElem? (i := 1) rfl))) dX2_backBound_6 ?_
  refine g_callV (n := 2) hk (k244_X2_envelopeBound l D zt q d I A  hIv) (SP.same _) (fun _ h => h) (gi_V (List.mem_cons_of_mem _ (List.mem_append_left _ (List.mem_of_getElem? (i := 2) rfl))) (List.mem_cons_of_mem _ (List.mem_append_left _ (List.mem_of_getElem? (i := 3) rfl))) (List.mem_cons_of_mem _ (List.mem_append_left _ (List.mem_of_getElem? (i := 4) rfl))) (List.mem_cons_of_mem _ (List.mem_append_left _ (List.mem_of_getElem? (i := 5) rfl))) (gi_sub (fun w h => (List.mem_cons_of_mem _ (List.mem_append_right _ (List.mem_append_right _ (List.mem_append_left _ h))))) zg_k244_X2_envelopeBound)) rfl rfl rfl (by decide +kernel) ⟨Nat.le_of_ble_eq_true rfl, Nat.le_of_ble_eq_true rfl⟩ 38 rfl rfl rfl rfl (Nat.le_of_ble_eq_true rfl) ⟨Nat.le_of_ble_eq_true rfl, Nat.le_of_ble_eq_true rfl⟩ dX2_backBound_9 (fun v ty' w' hp hk' => ?_)
  obtain ⟨y4313, rfl, rfl⟩ := hp
  show GW κ 1 0 0 (wX q d I A) 12 [(0, .ref (q 38))] [.int y4313]
  have b4314l := Int32.le_toInt y4313
  have b4314h := Int32.toInt_lt y4313
  exact g_iret hk hR rfl ⟨y4313, rfl, rfl⟩ dX2_backBound_12
def wo_k238_X11_bound : List Cond := [Cond.fieldLink RX11 65 "WarpDesk" "bench" "LWarpDesk$Bench;", Cond.methodLink RX11 212 yX0_openBoth, Cond.instanceMethod yX0_openBoth, Cond.selects RX0 yX0_openBoth yX0_openBoth, Cond.initialized RX0, Cond.fieldLink RX11 202 "WarpDesk$Bench" "fit" "LWarpDesk$Fit;", Cond.methodLink RX11 218 yX2_endsBound, Cond.instanceMethod yX2_endsBound, Cond.selects RX2 yX2_endsBound yX2_endsBound, Cond.initialized RX2, Cond.methodLink RX11 221 yX2_overBound, Cond.instanceMethod yX2_overBound, Cond.selects RX2 yX2_overBound yX2_overBound, Cond.methodLink RX11 224 yX2_backBound, Cond.instanceMethod yX2_backBound, Cond.selects RX2 yX2_backBound yX2_backBound]
def wz_k238_X11_bound : List Cond := .code yX11_bound cX11_bound 4 (some .int) :: (wo_k238_X11_bound ++ (wsX00 ++ (wsX110 ++ (wz_k222_X0_openBoth ++ (wz_k239_X2_endsBound ++ (wz_k240_X2_overBound ++ (wz_k243_X2_backBound ++ ([] : List Cond))))))))
theorem zg_k238_X11_bound : ∀ w ∈ wz_k238_X11_bound, goodWord w = true := zg_cons rfl (zg_app (by decide +kernel) (zg_app zgU_wsX00 (zg_app zgU_wsX110 (zg_app zg_k222_X0_openBoth (zg_app zg_k239_X2_endsBound (zg_app zg_k240_X2_overBound (zg_app zg_k243_X2_backBound zg_nil)))))))
theorem zi_k238_X11_bound : ∀ w ∈ wz_k238_X11_bound, w ∈ lw_tbl := zi_cons zw_1020 (zi_app (zi_cons zw_494 (zi_cons zw_969 (zi_cons zw_970 (zi_cons zw_971 (zi_cons zw_111 (zi_cons zw_383 (zi_cons zw_1021 (zi_cons zw_1022 (zi_cons zw_1023 (zi_cons zw_112 (zi_cons zw_1025 (zi_cons zw_1026 (zi_cons zw_1027 (zi_cons zw_1037 (zi_cons zw_1038 (zi_cons zw_1039 zi_nil)))))))))))))))) (zi_app inX0 (zi_app inX11 (zi_app zi_k222_X0_openBoth (zi_app zi_k239_X2_endsBound (zi_app zi_k240_X2_overBound (zi_app zi_k243_X2_backBound zi_nil)))))))
set_option maxHeartbeats 4000000 in
set_option maxRecDepth 100000 in
theorem k238_X11_bound (l : Launch) (D : va_G) (zt : Nat × Nat × Nat × (Nat → Nat) × (Nat → Nat)) (q : Nat → Nat) (d : Nat → ClassId) (I : Nat → Int32) (A : Nat → Nat → Int32) (z1 : Int32) (z2 : Int32) (z3 : Int32) (hIv : IvX I A) : GM l D zt (tyX d) yX11_bound wz_k238_X11_bound ({ frames := 6, cells := 0, slots := 0, locals := 131 } : Room) [.ref (q 0), .int z1, .int z2, .int z3] (wX q d I A) (fun v _ w' => ∃ (I' : Nat → Int32) (A' : Nat → Nat → Int32), Md [28, 30, 31, 32] I I' ∧ Md [21, 22] A A' ∧ IvX I' A' ∧ ∃ y0 : Int32, v = some (.int y0) ∧ w' = wX q d I' A') 0 0 := by
  refine GM.of (cc := cX11_bound) (maxL := 4) (ret := (some .int)) (own := RX11) (lv := [(0, .ref (q 0)), (1, .int z1), (2, .int z2), (3, .int z3)]) (by decide) rfl rfl (Nat.le_of_ble_eq_true rfl) rfl (fun κ sz hk hR hN => ?_)
  have hin0 : ∀ w ∈ u_ws RX0 TX0 5, w ∈ wz_k238_X11_bound := fun w h => (List.mem_cons_of_mem _ (List.mem_append_right _ (List.mem_append_left _ h)))
  have hin11 : ∀ w ∈ u_ws RX11 TX11 10, w ∈ wz_k238_X11_bound := fun w h => (List.mem_cons_of_mem _ (List.mem_append_right _ (List.mem_append_right _ (List.mem_append_left _ h))))
  refine g_aload_n hk dX11_bound_0 rfl ?_
  refine gX_r0_7 hk hin11 (List.mem_cons_of_mem _ (List.mem_append_left _ (List.mem_of_getElem? (i := 0) rfl))) dX11_bound_1 ?_
  refine g_iload_n hk dX11_bound_4 rfl ?_
  refine g_iload_n hk dX11_bound_5 rfl ?_
  refine g_callV (n := 2) hk (k222_X0_openBoth l D zt q d I A z1 z2 hIv) (SP.same _) (fun _ h => h) (gi_V (List.mem_cons_of_mem _ (List.mem_append_left _ (List.mem_of_getElem? (i := 1) rfl))) (List.mem_cons_of_mem _ (List.mem_append_left _ (List.mem_of_getElem? (i := 2) rfl))) (List.mem_cons_of_mem _ (List.mem_append_left _ (List.mem_of_getElem? (i := 3) rfl))) (List.mem_cons_of_mem _ (List.mem_append_left _ (List.mem_of_getElem? (i := 4) rfl))) (gi_sub (fun w h => (List.mem_cons_of_mem _ (List.mem_append_right _ (List.mem_append_right _ (List.mem_append_right _ (List.mem_append_left _ h)))))) zg_k222_X0_openBoth)) rfl rfl rfl (by decide +kernel) ⟨Nat.le_of_ble_eq_true rfl, Nat.le_of_ble_eq_true rfl⟩ 37 rfl rfl rfl rfl (Nat.le_of_ble_eq_true rfl) ⟨Nat.le_of_ble_eq_true rfl, Nat.le_of_ble_eq_true rfl⟩ dX11_bound_6 (fun v ty' w' hp hk' => ?_)
  obtain ⟨I4036, A4036, hI4036, hA4036, hV4036, y4033, c4034, c4035, rfl, rfl⟩ := hp
  show GW κ 4 0 0 (wX q d I4036 A4036) 9 [(0, .ref (q 0)), (1, .int z1), (2, .int z2), (3, .int z3)] [.int y4033]
  refine g_if_ne (tgt := 14) (a := y4033.toInt) hk dX11_bound_9 (by decide) rfl (fun c4037 => ?_) (fun c4037 => ?_)
  · skip
    refine g_iload_n hk dX11_bound_14 rfl ?_
    by_cases c4038 : z3.toInt = 0
    · refine g_tabIn (tgt := 40) (a := 0) hk dX11_bound_15 c4038 (by decide) (by decide) rfl (by decide) ?_
      refine g_aload_n hk dX11_bound_40 rfl ?_
      refine gX_r0_7 hk hin11 (List.mem_cons_of_mem _ (List.mem_append_left _ (List.mem_of_getElem? (i := 0) rfl))) dX11_bound_41 ?_
      refine gX_r37_3 hk hin0 (List.mem_cons_of_mem _ (List.mem_append_left _ (List.mem_of_getElem? (i := 5) rfl))) dX11_bound_44 ?_
      refine g_callV (n := 0) hk (k239_X2_endsBound l D zt q d I4036 A4036  hV4036) (SP.same _) (fun _ h => h) (gi_V (List.mem_cons_of_mem _ (List.mem_append_left _ (List.mem_of_getElem? (i := 6) rfl))) (List.mem_cons_of_mem _ (List.mem_append_left _ (List.mem_of_getElem? (i := 7) rfl))) (List.mem_cons_of_mem _ (List.mem_append_left _ (List.mem_of_getElem? (i := 8) rfl))) (List.mem_cons_of_mem _ (List.mem_append_left _ (List.mem_of_getElem? (i := 9) rfl))) (gi_sub (fun w h => (List.mem_cons_of_mem _ (List.mem_append_right _ (List.mem_append_right _ (List.mem_append_right _ (List.mem_append_right _ (List.mem_append_left _ h))))))) zg_k239_X2_endsBound)) rfl rfl rfl (by decide +kernel) ⟨Nat.le_of_ble_eq_true rfl, Nat.le_of_ble_eq_true rfl⟩ 38 rfl rfl rfl rfl (Nat.le_of_ble_eq_true rfl) ⟨Nat.le_of_ble_eq_true rfl, Nat.le_of_ble_eq_true rfl⟩ dX11_bound_47 (fun v ty' w' hp hk' => ?_)
      obtain ⟨y4047, rfl, rfl⟩ := hp
      show GW κ 4 0 0 (wX q d I4036 A4036) 50 [(0, .ref (q 0)), (1, .int z1), (2, .int z2), (3, .int z3)] [.int y4047]
      have b4048l := Int32.le_toInt y4047
      have b4048h := Int32.toInt_lt y4047
      exact g_iret hk hR rfl ⟨I4036, A4036, (show Md [28, 30, 31, 32] I I4036 from (Md.tr Md.rf hI4036 rfl)), (show Md [21, 22] A A4036 from (Md.tr Md.rf hA4036 rfl)), hV4036, y4047, rfl, rfl⟩ dX11_bound_50
    by_cases c4049 : z3.toInt = 1
    · refine g_tabIn (tgt := 51) (a := 1) hk dX11_bound_15 c4049 (by decide) (by decide) rfl (by decide) ?_
      refine g_aload_n hk dX11_bound_51 rfl ?_
      refine gX_r0_7 hk hin11 (List.mem_cons_of_mem _ (List.mem_append_left _ (List.mem_of_getElem? (i := 0) rfl))) dX11_bound_52 ?_
      refine gX_r37_3 hk hin0 (List.mem_cons_of_mem _ (List.mem_append_left _ (List.mem_of_getElem? (i := 5) rfl))) dX11_bound_55 ?_
      refine g_callV (n := 0) hk (k240_X2_overBound l D zt q d I4036 A4036  hV4036) (SP.same _) (fun _ h => h) (gi_V (List.mem_cons_of_mem _ (List.mem_append_left _ (List.mem_of_getElem? (i := 10) rfl))) (List.mem_cons_of_mem _ (List.mem_append_left _ (List.mem_of_getElem? (i := 11) rfl))) (List.mem_cons_of_mem _ (List.mem_append_left _ (List.mem_of_getElem? (i := 12) rfl))) (List.mem_cons_of_mem _ (List.mem_append_left _ (List.mem_of_getElem? (i := 9) rfl))) (gi_sub (fun w h => (List.mem_cons_of_mem _ (List.mem_append_right _ (List.mem_append_right _ (List.mem_append_right _ (List.mem_append_right _ (List.mem_append_right _ (List.mem_append_left _ h)))))))) zg_k240_X2_overBound)) rfl rfl rfl (by decide +kernel) ⟨Nat.le_of_ble_eq_true rfl, Nat.le_of_ble_eq_true rfl⟩ 38 rfl rfl rfl rfl (Nat.le_of_ble_eq_true rfl) ⟨Nat.le_of_ble_eq_true rfl, Nat.le_of_ble_eq_true rfl⟩ dX11_bound_58 (fun v ty' w' hp hk' => ?_)
      obtain ⟨y4181, rfl, rfl⟩ := hp
      show GW κ 4 0 0 (wX q d I4036 A4036) 61 [(0, .ref (q 0)), (1, .int z1), (2, .int z2), (3, .int z3)] [.int y4181]
      have b4182l := Int32.le_toInt y4181
      have b4182h := Int32.toInt_lt y4181
      exact g_iret hk hR rfl ⟨I4036, A4036, (show Md [28, 30, 31, 32] I I4036 from (Md.tr Md.rf hI4036 rfl)), (show Md [21, 22] A A4036 from (Md.tr Md.rf hA4036 rfl)), hV4036, y4181, rfl, rfl⟩ dX11_bound_61
    by_cases c4183 : z3.toInt = 2
    · refine g_tabIn (tgt := 62) (a := 2) hk dX11_bound_15 c4183 (by decide) (by decide) rfl (by decide) ?_
      refine g_aload_n hk dX11_bound_62 rfl ?_
      refine gX_r0_7 hk hin11 (List.mem_cons_of_mem _ (List.mem_append_left _ (List.mem_of_getElem? (i := 0) rfl))) dX11_bound_63 ?_
      refine gX_r37_3 hk hin0 (List.mem_cons_of_mem _ (List.mem_append_left _ (List.mem_of_getElem? (i := 5) rfl))) dX11_bound_66 ?_
      refine g_callV (n := 0) hk (k243_X2_backBound l D zt q d I4036 A4036  hV4036) (SP.same _) (fun _ h => h) (gi_V (List.mem_cons_of_mem _ (List.mem_append_left _ (List.mem_of_getElem? (i := 13) rfl))) (List.mem_cons_of_mem _ (List.mem_append_left _ (List.mem_of_getElem? (i := 14) rfl))) (List.mem_cons_of_mem _ (List.mem_append_left _ (List.mem_of_getElem? (i := 15) rfl))) (List.mem_cons_of_mem _ (List.mem_append_left _ (List.mem_of_getElem? (i := 9) rfl))) (gi_sub (fun w h => (List.mem_cons_of_mem _ (List.mem_append_right _ (List.mem_append_right _ (List.mem_append_right _ (List.mem_append_right _ (List.mem_append_right _ (List.mem_append_right _ (List.mem_append_left _ h))))))))) zg_k243_X2_backBound)) rfl rfl rfl (by decide +kernel) ⟨Nat.le_of_ble_eq_true rfl, Nat.le_of_ble_eq_true rfl⟩ 38 rfl rfl rfl rfl (Nat.le_of_ble_eq_true rfl) ⟨Nat.le_of_ble_eq_true rfl, Nat.le_of_ble_eq_true rfl⟩ dX11_bound_69 (fun v ty' w' hp hk' => ?_)
      obtain ⟨y4315, rfl, rfl⟩ := hp
      show GW κ 4 0 0 (wX q d I4036 A4036) 72 [(0, .ref (q 0)), (1, .int z1), (2, .int z2), (3, .int z3)] [.int y4315]
      have b4316l := Int32.le_toInt y4315
      have b4316h := Int32.toInt_lt y4315
      exact g_iret hk hR rfl ⟨I4036, A4036, (show Md [28, 30, 31, 32] I I4036 from (Md.tr Md.rf hI4036 rfl)), (show Md [21, 22] A A4036 from (Md.tr Md.rf hA4036 rfl)), hV4036, y4315, rfl, rfl⟩ dX11_bound_72
    refine g_tabOut (tgt := 73) (a := z3.toInt) hk dX11_bound_15 rfl (by omega) (by decide) ?_
    refine g_iconst (v := (-1)) hk dX11_bound_73 (by decide) ?_
    exact g_iret hk hR rfl ⟨I4036, A4036, (show Md [28, 30, 31, 32] I I4036 from (Md.tr Md.rf hI4036 rfl)), (show Md [21, 22] A A4036 from (Md.tr Md.rf hA4036 rfl)), hV4036, (-1), rfl, rfl⟩ dX11_bound_74
  · skip
    refine g_iconst (v := (-1)) hk dX11_bound_12 (by decide) ?_
    exact g_iret hk hR rfl ⟨I4036, A4036, (show Md [28, 30, 31, 32] I I4036 from (Md.tr Md.rf hI4036 rfl)), (show Md [21, 22] A A4036 from (Md.tr Md.rf hA4036 rfl)), hV4036, (-1), rfl, rfl⟩ dX11_bound_13
