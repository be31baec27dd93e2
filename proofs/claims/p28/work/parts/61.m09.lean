noncomputable def fM12_near (I : Nat → Int32) (A : Nat → Nat → Int32) (L : Nat → Nat → Int64) (z1 : Int32) (z2 : Int32) (z3 : Int32) : Int32 × (Nat → Int32) × (Nat → Nat → Int32) × (Nat → Nat → Int64) := if fM12_in I A L z2 2 16 = 0 then ((-1), I, A, L) else if fM12_isWindow I A L z1 z2 = 0 then ((-1), I, A, L) else if fM12_in I A L z3 0 1 = 0 then ((-1), I, A, L) else f_bdM (fM12_copies I A L) fun _ I33321 A33321 L33321 => f_bdM (fM12_nearOf I33321 A33321 L33321 z1 z2) fun y33556 I33559 A33559 L33559 => if z3.toInt ≠ 0 then ((I33559 25), I33559, A33559, L33559) else (y33556, I33559, A33559, L33559)
def wo_j198_X12_near : List Cond := [Cond.methodLink RX12 244 yX12_in, Cond.static yX12_in, Cond.initialized RX12, Cond.methodLink RX12 257 yX12_isWindow, Cond.instanceMethod yX12_isWindow, Cond.selects RX12 yX12_isWindow yX12_isWindow, Cond.methodLink RX12 323 yX12_copies, Cond.instanceMethod yX12_copies, Cond.selects RX12 yX12_copies yX12_copies, Cond.methodLink RX12 388 yX12_nearOf, Cond.instanceMethod yX12_nearOf, Cond.selects RX12 yX12_nearOf yX12_nearOf, Cond.fieldLink RX12 381 "WarpDeskModel" "nearFar" "I"]
def wz_j198_X12_near : List Cond := .code yX12_near cX12_near 5 (some .int) :: (wo_j198_X12_near ++ (wsX120 ++ (wz_j145_X12_in ++ (wz_j160_X12_isWindow ++ (wz_j151_X12_copies ++ (wz_j199_X12_nearOf ++ ([] : List Cond)))))))
theorem zg_j198_X12_near : ∀ w ∈ wz_j198_X12_near, goodWord w = true := zg_cons rfl (zg_app (by decide +kernel) (zg_app zgU_wsX120 (zg_app zg_j145_X12_in (zg_app zg_j160_X12_isWindow (zg_app zg_j151_X12_copies (zg_app zg_j199_X12_nearOf zg_nil))))))
theorem zi_j198_X12_near : ∀ w ∈ wz_j198_X12_near, w ∈ lw_tbl := zi_cons zw_1918 (zi_app (zi_cons zw_1656 (zi_cons zw_1657 (zi_cons zw_115 (zi_cons zw_1714 (zi_cons zw_1716 (zi_cons zw_72 (zi_cons zw_1679 (zi_cons zw_1681 (zi_cons zw_70 (zi_cons zw_1919 (zi_cons zw_1921 (zi_cons zw_99 (zi_cons zw_1430 zi_nil))))))))))))) (zi_app inX12 (zi_app zi_j145_X12_in (zi_app zi_j160_X12_isWindow (zi_app zi_j151_X12_copies (zi_app zi_j199_X12_nearOf zi_nil))))))
set_option maxHeartbeats 4000000 in
set_option maxRecDepth 100000 in
theorem j198_X12_near (l : Launch) (D : va_G) (zt : Nat × Nat × Nat × (Nat → Nat) × (Nat → Nat)) (r : Nat → Nat) (g : Nat → ClassId) (I : Nat → Int32) (A : Nat → Nat → Int32) (L : Nat → Nat → Int64) (z1 : Int32) (z2 : Int32) (z3 : Int32) (hIv : IvM I A) : GM l D zt (tyM g) yX12_near wz_j198_X12_near ({ frames := 6, cells := 0, slots := 0, locals := 137 } : Room) [.ref (r 0), .int z1, .int z2, .int z3] (wM r g I A L) (fun v _ w' => ∃ (I' : Nat → Int32) (A' : Nat → Nat → Int32) (L' : Nat → Nat → Int64), Md [18, 19, 20, 25] I I' ∧ Md [18, 19, 20, 21] A A' ∧ IvM I' A' ∧ ∃ y0 : Int32, (L' = L) ∧ FE (fM12_near I A L z1 z2 z3) (y0, I', A', L') ∧ v = some (.int y0) ∧ w' = wM r g I' A' L') 0 0 := by
  refine GM.of (cc := cX12_near) (maxL := 5) (ret := (some .int)) (own := RX12) (lv := [(0, .ref (r 0)), (1, .int z1), (2, .int z2), (3, .int z3)]) (by decide) rfl rfl (Nat.le_of_ble_eq_true rfl) rfl (fun κ sz hk hR hN => ?_)
  have hin12 : ∀ w ∈ u_ws RX12 TX12 55, w ∈ wz_j198_X12_near := fun w h => (List.mem_cons_of_mem _ (List.mem_append_right _ (List.mem_append_left _ h)))
  have hF : FE (fM12_near I A L z1 z2 z3) (fM12_near I A L z1 z2 z3) := FE.rf
  refine g_iload_n hk dX12_near_0 rfl ?_
  refine g_iconst (v := 2) hk dX12_near_1 (by decide) ?_
  refine g_bipush (v := 16) hk dX12_near_2 (by decide) ?_
  have k33295 : (2 : Int32).toInt = 2 := rfl
  have k33296 : (16 : Int32).toInt = 16 := rfl
  refine g_callS (n := 3) hk (j145_X12_in l D zt r g I A L z2 2 16 hIv) (SP.same _) (fun _ h => h) (gi_S (List.mem_cons_of_mem _ (List.mem_append_left _ (List.mem_of_getElem? (i := 0) rfl))) (List.mem_cons_of_mem _ (List.mem_append_left _ (List.mem_of_getElem? (i := 1) rfl))) (List.mem_cons_of_mem _ (List.mem_append_left _ (List.mem_of_getElem? (i := 2) rfl))) (gi_sub (fun w h => (List.mem_cons_of_mem _ (List.mem_append_right _ (List.mem_append_right _ (List.mem_append_left _ h))))) zg_j145_X12_in)) rfl rfl rfl (by decide +kernel) ⟨Nat.le_of_ble_eq_true rfl, Nat.le_of_ble_eq_true rfl⟩ rfl rfl (Nat.le_of_ble_eq_true rfl) ⟨Nat.le_of_ble_eq_true rfl, Nat.le_of_ble_eq_true rfl⟩ dX12_near_4 (fun v ty' w' hp hk' => ?_)
  rcases hp with ⟨c33297, hC, rfl, rfl⟩ | ⟨c33299, c33300, hC, rfl, rfl⟩
  · skip
    replace hF := FE.pos hF hC
    have b33302l := Int32.le_toInt z2
    have b33302h := Int32.toInt_lt z2
    show GW κ 5 0 0 (wM r g I A L) 7 [(0, .ref (r 0)), (1, .int z1), (2, .int z2), (3, .int z3)] [.int 0]
    refine g_if_eq (tgt := 28) (a := 0) hk dX12_near_7 (by decide) rfl (fun _ => ?_) (fun z9 => absurd (show (0 : Int) = (0 : Int) from by decide) z9)
    refine g_iconst (v := (-1)) hk dX12_near_28 (by decide) ?_
    exact g_iret hk hR rfl ⟨I, A, L, (show Md [18, 19, 20, 25] I I from Md.rf), (show Md [18, 19, 20, 21] A A from Md.rf), hIv, (-1), (show L = L from rfl), hF, rfl, rfl⟩ dX12_near_29
  · skip
    replace hF := FE.neg hF (fe_ne hC (by decide))
    show GW κ 5 0 0 (wM r g I A L) 7 [(0, .ref (r 0)), (1, .int z1), (2, .int z2), (3, .int z3)] [.int 1]
    refine g_if_eq (tgt := 28) (a := 1) hk dX12_near_7 (by decide) rfl (fun z9 => absurd z9 (show ¬ ((1 : Int) = (0 : Int)) from by decide)) (fun _ => ?_)
    refine g_aload_n hk dX12_near_10 rfl ?_
    refine g_iload_n hk dX12_near_11 rfl ?_
    refine g_iload_n hk dX12_near_12 rfl ?_
    refine g_callV (n := 2) hk (j160_X12_isWindow l D zt r g I A L z1 z2 hIv) (SP.same _) (fun _ h => h) (gi_V (List.mem_cons_of_mem _ (List.mem_append_left _ (List.mem_of_getElem? (i := 3) rfl))) (List.mem_cons_of_mem _ (List.mem_append_left _ (List.mem_of_getElem? (i := 4) rfl))) (List.mem_cons_of_mem _ (List.mem_append_left _ (List.mem_of_getElem? (i := 5) rfl))) (List.mem_cons_of_mem _ (List.mem_append_left _ (List.mem_of_getElem? (i := 2) rfl))) (gi_sub (fun w h => (List.mem_cons_of_mem _ (List.mem_append_right _ (List.mem_append_right _ (List.mem_append_right _ (List.mem_append_left _ h)))))) zg_j160_X12_isWindow)) rfl rfl rfl (by decide +kernel) ⟨Nat.le_of_ble_eq_true rfl, Nat.le_of_ble_eq_true rfl⟩ 0 rfl rfl rfl rfl (Nat.le_of_ble_eq_true rfl) ⟨Nat.le_of_ble_eq_true rfl, Nat.le_of_ble_eq_true rfl⟩ dX12_near_13 (fun v ty' w' hp hk' => ?_)
    rcases hp with ⟨hC, rfl, rfl⟩ | ⟨c33304, c33305, c33306, c33307, c33308, c33309, c33310, hC, rfl, rfl⟩
    · skip
      replace hF := FE.pos hF hC
      show GW κ 5 0 0 (wM r g I A L) 16 [(0, .ref (r 0)), (1, .int z1), (2, .int z2), (3, .int z3)] [.int 0]
      refine g_if_eq (tgt := 28) (a := 0) hk dX12_near_16 (by decide) rfl (fun _ => ?_) (fun z9 => absurd (show (0 : Int) = (0 : Int) from by decide) z9)
      refine g_iconst (v := (-1)) hk dX12_near_28 (by decide) ?_
      exact g_iret hk hR rfl ⟨I, A, L, (show Md [18, 19, 20, 25] I I from Md.rf), (show Md [18, 19, 20, 21] A A from Md.rf), hIv, (-1), (show L = L from rfl), hF, rfl, rfl⟩ dX12_near_29
    · skip
      replace hF := FE.neg hF (fe_ne hC (by decide))
      show GW κ 5 0 0 (wM r g I A L) 16 [(0, .ref (r 0)), (1, .int z1), (2, .int z2), (3, .int z3)] [.int 1]
      refine g_if_eq (tgt := 28) (a := 1) hk dX12_near_16 (by decide) rfl (fun z9 => absurd z9 (show ¬ ((1 : Int) = (0 : Int)) from by decide)) (fun _ => ?_)
      refine g_iload_n hk dX12_near_19 rfl ?_
      refine g_iconst (v := 0) hk dX12_near_20 (by decide) ?_
      refine g_iconst (v := 1) hk dX12_near_21 (by decide) ?_
      have k33312 : (0 : Int32).toInt = 0 := rfl
      have k33313 : (1 : Int32).toInt = 1 := rfl
      refine g_callS (n := 3) hk (j145_X12_in l D zt r g I A L z3 0 1 hIv) (SP.same _) (fun _ h => h) (gi_S (List.mem_cons_of_mem _ (List.mem_append_left _ (List.mem_of_getElem? (i := 0) rfl))) (List.mem_cons_of_mem _ (List.mem_append_left _ (List.mem_of_getElem? (i := 1) rfl))) (List.mem_cons_of_mem _ (List.mem_append_left _ (List.mem_of_getElem? (i := 2) rfl))) (gi_sub (fun w h => (List.mem_cons_of_mem _ (List.mem_append_right _ (List.mem_append_right _ (List.mem_append_left _ h))))) zg_j145_X12_in)) rfl rfl rfl (by decide +kernel) ⟨Nat.le_of_ble_eq_true rfl, Nat.le_of_ble_eq_true rfl⟩ rfl rfl (Nat.le_of_ble_eq_true rfl) ⟨Nat.le_of_ble_eq_true rfl, Nat.le_of_ble_eq_true rfl⟩ dX12_near_22 (fun v ty' w' hp hk' => ?_)
      rcases hp with ⟨c33314, hC, rfl, rfl⟩ | ⟨c33316, c33317, hC, rfl, rfl⟩
      · skip
        replace hF := FE.pos hF hC
        have b33319l := Int32.le_toInt z3
        have b33319h := Int32.toInt_lt z3
        show GW κ 5 0 0 (wM r g I A L) 25 [(0, .ref (r 0)), (1, .int z1), (2, .int z2), (3, .int z3)] [.int 0]
        refine g_if_ne (tgt := 30) (a := 0) hk dX12_near_25 (by decide) rfl (fun z9 => absurd z9 (show ¬ ((0 : Int) ≠ (0 : Int)) from by decide)) (fun _ => ?_)
        refine g_iconst (v := (-1)) hk dX12_near_28 (by decide) ?_
        exact g_iret hk hR rfl ⟨I, A, L, (show Md [18, 19, 20, 25] I I from Md.rf), (show Md [18, 19, 20, 21] A A from Md.rf), hIv, (-1), (show L = L from rfl), hF, rfl, rfl⟩ dX12_near_29
      · skip
        replace hF := FE.neg hF (fe_ne hC (by decide))
        show GW κ 5 0 0 (wM r g I A L) 25 [(0, .ref (r 0)), (1, .int z1), (2, .int z2), (3, .int z3)] [.int 1]
        refine g_if_ne (tgt := 30) (a := 1) hk dX12_near_25 (by decide) rfl (fun _ => ?_) (fun z9 => absurd (show (1 : Int) ≠ (0 : Int) from by decide) z9)
        refine g_aload_n hk dX12_near_30 rfl ?_
        refine g_callV (n := 0) hk (j151_X12_copies l D zt r g I A L  hIv) (SP.same _) (fun _ h => h) (gi_V (List.mem_cons_of_mem _ (List.mem_append_left _ (List.mem_of_getElem? (i := 6) rfl))) (List.mem_cons_of_mem _ (List.mem_append_left _ (List.mem_of_getElem? (i := 7) rfl))) (List.mem_cons_of_mem _ (List.mem_append_left _ (List.mem_of_getElem? (i := 8) rfl))) (List.mem_cons_of_mem _ (List.mem_append_left _ (List.mem_of_getElem? (i := 2) rfl))) (gi_sub (fun w h => (List.mem_cons_of_mem _ (List.mem_append_right _ (List.mem_append_right _ (List.mem_append_right _ (List.mem_append_right _ (List.mem_append_left _ h))))))) zg_j151_X12_copies)) rfl rfl rfl (by decide +kernel) ⟨Nat.le_of_ble_eq_true rfl, Nat.le_of_ble_eq_true rfl⟩ 0 rfl rfl rfl rfl (Nat.le_of_ble_eq_true rfl) ⟨Nat.le_of_ble_eq_true rfl, Nat.le_of_ble_eq_true rfl⟩ dX12_near_31 (fun v ty' w' hp hk' => ?_)
        obtain ⟨I33321, A33321, L33321, hI33321, hA33321, hV33321, r33322, r33323, hL33321, hC, rfl, rfl⟩ := hp
        replace hF := FE.bdM hF hC
        have f33324 := IvM_s17_0 hIv
        have f33325 := IvM_s17_164 hIv
        show GW κ 5 0 0 (wM r g I33321 A33321 L33321) 34 [(0, .ref (r 0)), (1, .int z1), (2, .int z2), (3, .int z3)] []
        refine g_aload_n hk dX12_near_34 rfl ?_
        refine g_iload_n hk dX12_near_35 rfl ?_
        refine g_iload_n hk dX12_near_36 rfl ?_
        refine g_callV (n := 2) hk (j199_X12_nearOf l D zt r g I33321 A33321 L33321 z1 z2 hV33321 (by omega) (by omega) (by omega) (by omega) (by omega)) (SP.same _) (fun _ h => h) (gi_V (List.mem_cons_of_mem _ (List.mem_append_left _ (List.mem_of_getElem? (i := 9) rfl))) (List.mem_cons_of_mem _ (List.mem_append_left _ (List.mem_of_getElem? (i := 10) rfl))) (List.mem_cons_of_mem _ (List.mem_append_left _ (List.mem_of_getElem? (i := 11) rfl))) (List.mem_cons_of_mem _ (List.mem_append_left _ (List.mem_of_getElem? (i := 2) rfl))) (gi_sub (fun w h => (List.mem_cons_of_mem _ (List.mem_append_right _ (List.mem_append_right _ (List.mem_append_right _ (List.mem_append_right _ (List.mem_append_right _ (List.mem_append_left _ h)))))))) zg_j199_X12_nearOf)) rfl rfl rfl (by decide +kernel) ⟨Nat.le_of_ble_eq_true rfl, Nat.le_of_ble_eq_true rfl⟩ 0 rfl rfl rfl rfl (Nat.le_of_ble_eq_true rfl) ⟨Nat.le_of_ble_eq_true rfl, Nat.le_of_ble_eq_true rfl⟩ dX12_near_37 (fun v ty' w' hp hk' => ?_)
        obtain ⟨I33559, A33559, L33559, hI33559, hA33559, hV33559, y33556, hL33559, c33557, c33558, hC, rfl, rfl⟩ := hp
        replace hF := FE.bdM hF hC
        show GW κ 5 0 0 (wM r g I33559 A33559 L33559) 40 [(0, .ref (r 0)), (1, .int z1), (2, .int z2), (3, .int z3)] [.int y33556]
        refine g_istore (lv' := [(4, .int y33556), (0, .ref (r 0)), (1, .int z1), (2, .int z2), (3, .int z3)]) hk dX12_near_40 (by decide) rfl ?_
        refine g_iload_n hk dX12_near_42 rfl ?_
        refine g_if_ne (tgt := 51) (a := z3.toInt) hk dX12_near_43 (by decide) rfl (fun c33560 => ?_) (fun c33560 => ?_)
        · skip
          replace hF := FE.pos hF c33560
          refine g_aload_n hk dX12_near_51 rfl ?_
          refine gM_i25 (v := (I33559 25)) hk hin12 (List.mem_cons_of_mem _ (List.mem_append_left _ (List.mem_of_getElem? (i := 12) rfl))) dX12_near_52 rfl ?_
          have b33561l := Int32.le_toInt (I33559 25)
          have b33561h := Int32.toInt_lt (I33559 25)
          exact g_iret hk hR rfl ⟨I33559, A33559, L33559, (show Md [18, 19, 20, 25] I I33559 from (Md.tr (Md.tr Md.rf hI33321 rfl) hI33559 rfl)), (show Md [18, 19, 20, 21] A A33559 from (Md.tr (Md.tr Md.rf hA33321 rfl) hA33559 rfl)), hV33559, (I33559 25), (show L33559 = L from (hL33559.trans hL33321)), hF, rfl, rfl⟩ dX12_near_55
        · skip
          replace hF := FE.neg hF c33560
          refine g_iload hk dX12_near_46 rfl ?_
          refine g_goto (tgt := 55) hk dX12_near_48 (by decide) ?_
          exact g_iret hk hR rfl ⟨I33559, A33559, L33559, (show Md [18, 19, 20, 25] I I33559 from (Md.tr (Md.tr Md.rf hI33321 rfl) hI33559 rfl)), (show Md [18, 19, 20, 21] A A33559 from (Md.tr (Md.tr Md.rf hA33321 rfl) hA33559 rfl)), hV33559, y33556, (show L33559 = L from (hL33559.trans hL33321)), hF, rfl, rfl⟩ dX12_near_55
noncomputable def bM12_pair_69 (A : Nat → Nat → Int32) (x33583 : Int32) (kk34312 : Int32 → Int32 → Int32 → Int32 → (Nat → Int32) → (Nat → Nat → Int32) → (Nat → Nat → Int64) → (Int32 × (Nat → Int32) × (Nat → Nat → Int32) × (Nat → Nat → Int64))) (z1 : Int32) : (Int32 → Int32 → Int32 → Int32 → (Nat → Int32) → (Nat → Nat → Int32) → (Nat → Nat → Int64) → (Int32 × (Nat → Int32) × (Nat → Nat → Int32) × (Nat → Nat → Int64))) → Int32 → Int32 → Int32 → Int32 → (Nat → Int32) → (Nat → Nat → Int32) → (Nat → Nat → Int64) → (Int32 × (Nat → Int32) × (Nat → Nat → Int32) × (Nat → Nat → Int64)) := fun kk34402 x34330 x34332 x34333 x34334 I34338 A34338 L34338 => if (A 17 0).toInt ≤ x34330.toInt then f_lt (x33583 + Int32.ofInt 1) fun y34405 => kk34312 y34405 x34332 x34333 x34334 I34338 A34338 L34338 else if fM12_isWindow I34338 A34338 L34338 x34330 z1 = 0 then f_lt (x34330 + Int32.ofInt 1) fun y34416 => kk34402 y34416 x34332 x34333 x34334 I34338 A34338 L34338 else f_bdM (fM12_laysWindows I34338 A34338 L34338 x33583 x34330 z1) fun _ I34419 A34419 L34419 => f_bdM (fM12_laysTable I34419 A34419 L34419 2000000000) fun y34423 I34424 A34424 L34424 => if x34334.toInt < 0 then f_lt (x34330 + Int32.ofInt 1) fun y34426 => kk34402 y34426 y34423 x34330 x33583 I34424 A34424 L34424 else if y34423.toInt < x34332.toInt then f_lt (x34330 + Int32.ofInt 1) fun y34431 => kk34402 y34431 y34423 x34330 x33583 I34424 A34424 L34424 else f_lt (x34330 + Int32.ofInt 1) fun y34432 => kk34402 y34432 x34332 x34333 x34334 I34424 A34424 L34424
noncomputable def bM12_pair_39 (A : Nat → Nat → Int32) (z2 : Int32) (z1 : Int32) : (Int32 → Int32 → Int32 → Int32 → (Nat → Int32) → (Nat → Nat → Int32) → (Nat → Nat → Int64) → (Int32 × (Nat → Int32) × (Nat → Nat → Int32) × (Nat → Nat → Int64))) → Int32 → Int32 → Int32 → Int32 → (Nat → Int32) → (Nat → Nat → Int32) → (Nat → Nat → Int64) → (Int32 × (Nat → Int32) × (Nat → Nat → Int32) × (Nat → Nat → Int64)) := fun kk34312 x33583 x33584 x33585 x33586 I33590 A33590 L33590 => if (A 17 0).toInt ≤ x33583.toInt then if z2.toInt ≠ 0 then if z2.toInt ≠ 1 then (x33584, I33590, A33590, L33590) else (x33585, I33590, A33590, L33590) else (x33586, I33590, A33590, L33590) else if fM12_isWindow I33590 A33590 L33590 x33583 z1 = 0 then f_lt (x33583 + Int32.ofInt 1) fun y34327 => kk34312 y34327 x33584 x33585 x33586 I33590 A33590 L33590 else f_lt (x33583 + z1) fun y34329 => itr_iiiiIAL dfM (bM12_pair_69 A x33583 kk34312 z1) FU y34329 x33584 x33585 x33586 I33590 A33590 L33590
noncomputable def fM12_pair (I : Nat → Int32) (A : Nat → Nat → Int32) (L : Nat → Nat → Int64) (z1 : Int32) (z2 : Int32) : Int32 × (Nat → Int32) × (Nat → Nat → Int32) × (Nat → Nat → Int64) := if fM12_in I A L z1 2 16 = 0 then ((-1), I, A, L) else if fM12_in I A L z2 0 2 = 0 then ((-1), I, A, L) else f_bdM (fM12_copies I A L) fun _ I33578 A33578 L33578 => itr_iiiiIAL dfM (bM12_pair_39 A z2 z1) FU 0 (-2) (-2) (-2) I33578 A33578 L33578
def wo_j201_X12_pair : List Cond := [Cond.methodLink RX12 244 yX12_in, Cond.static yX12_in, Cond.initialized RX12, Cond.methodLink RX12 323 yX12_copies, Cond.instanceMethod yX12_copies, Cond.selects RX12 yX12_copies yX12_copies, Cond.fieldLink RX12 70 "WarpDeskModel" "now" "[I", Cond.methodLink RX12 257 yX12_isWindow, Cond.instanceMethod yX12_isWindow, Cond.selects RX12 yX12_isWindow yX12_isWindow, Cond.methodLink RX12 384 yX12_laysWindows, Cond.instanceMethod yX12_laysWindows, Cond.selects RX12 yX12_laysWindows yX12_laysWindows, Cond.constant RX12 282 (2000000000), Cond.methodLink RX12 304 yX12_laysTable, Cond.instanceMethod yX12_laysTable, Cond.selects RX12 yX12_laysTable yX12_laysTable]
def wz_j201_X12_pair : List Cond := .code yX12_pair cX12_pair 9 (some .int) :: (wo_j201_X12_pair ++ (wsX120 ++ (wz_j145_X12_in ++ (wz_j151_X12_copies ++ (wz_j160_X12_isWindow ++ (wz_j200_X12_laysWindows ++ (wz_j173_X12_laysTable ++ ([] : List Cond))))))))
theorem zg_j201_X12_pair : ∀ w ∈ wz_j201_X12_pair, goodWord w = true := zg_cons rfl (zg_app (by decide +kernel) (zg_app zgU_wsX120 (zg_app zg_j145_X12_in (zg_app zg_j151_X12_copies (zg_app zg_j160_X12_isWindow (zg_app zg_j200_X12_laysWindows (zg_app zg_j173_X12_laysTable zg_nil)))))))
theorem zi_j201_X12_pair : ∀ w ∈ wz_j201_X12_pair, w ∈ lw_tbl := zi_cons zw_1930 (zi_app (zi_cons zw_1656 (zi_cons zw_1657 (zi_cons zw_115 (zi_cons zw_1679 (zi_cons zw_1681 (zi_cons zw_70 (zi_cons zw_1413 (zi_cons zw_1714 (zi_cons zw_1716 (zi_cons zw_72 (zi_cons zw_1923 (zi_cons zw_1925 (zi_cons zw_100 (zi_cons zw_1775 (zi_cons zw_1776 (zi_cons zw_1778 (zi_cons zw_83 zi_nil))))))))))))))))) (zi_app inX12 (zi_app zi_j145_X12_in (zi_app zi_j151_X12_copies (zi_app zi_j160_X12_isWindow (zi_app zi_j200_X12_laysWindows (zi_app zi_j173_X12_laysTable zi_nil)))))))
set_option maxHeartbeats 4000000 in
set_option maxRecDepth 100000 in
theorem j201_X12_pair (l : Launch) (D : va_G) (zt : Nat × Nat × Nat × (Nat → Nat) × (Nat → Nat)) (r : Nat → Nat) (g : Nat → ClassId) (I : Nat → Int32) (A : Nat → Nat → Int32) (L : Nat → Nat → Int64) (z1 : Int32) (z2 : Int32) (hIv : IvM I A) : GM l D zt (tyM g) yX12_pair wz_j201_X12_pair ({ frames := 5, cells := 0, slots := 0, locals := 112 } : Room) [.ref (r 0), .int z1, .int z2] (wM r g I A L) (fun v _ w' => ∃ (I' : Nat → Int32) (A' : Nat → Nat → Int32) (L' : Nat → Nat → Int64), Md [18, 19, 20] I I' ∧ Md [18, 19, 20, 21] A A' ∧ IvM I' A' ∧ ∃ y0 : Int32, (L' = L) ∧ FE (fM12_pair I A L z1 z2) (y0, I', A', L') ∧ v = some (.int y0) ∧ w' = wM r g I' A' L') 0 0 := by
  refine GM.of (cc := cX12_pair) (maxL := 9) (ret := (some .int)) (own := RX12) (lv := [(0, .ref (r 0)), (1, .int z1), (2, .int z2)]) (by decide) rfl rfl (Nat.le_of_ble_eq_true rfl) rfl (fun κ sz hk hR hN => ?_)
  have hin12 : ∀ w ∈ u_ws RX12 TX12 55, w ∈ wz_j201_X12_pair := fun w h => (List.mem_cons_of_mem _ (List.mem_append_right _ (List.mem_append_left _ h)))
  have hF : FE (fM12_pair I A L z1 z2) (fM12_pair I A L z1 z2) := FE.rf
  refine g_iload_n hk dX12_pair_0 rfl ?_
  refine g_iconst (v := 2) hk dX12_pair_1 (by decide) ?_
  refine g_bipush (v := 16) hk dX12_pair_2 (by decide) ?_
  have k33562 : (2 : Int32).toInt = 2 := rfl
  have k33563 : (16 : Int32).toInt = 16 := rfl
  refine g_callS (n := 3) hk (j145_X12_in l D zt r g I A L z1 2 16 hIv) (SP.same _) (fun _ h => h) (gi_S (List.mem_cons_of_mem _ (List.mem_append_left _ (List.mem_of_getElem? (i := 0) rfl))) (List.mem_cons_of_mem _ (List.mem_append_left _ (List.mem_of_getElem? (i := 1) rfl))) (List.mem_cons_of_mem _ (List.mem_append_left _ (List.mem_of_getElem? (i := 2) rfl))) (gi_sub (fun w h => (List.mem_cons_of_mem _ (List.mem_append_right _ (List.mem_append_right _ (List.mem_append_left _ h))))) zg_j145_X12_in)) rfl rfl rfl (by decide +kernel) ⟨Nat.le_of_ble_eq_true rfl, Nat.le_of_ble_eq_true rfl⟩ rfl rfl (Nat.le_of_ble_eq_true rfl) ⟨Nat.le_of_ble_eq_true rfl, Nat.le_of_ble_eq_true rfl⟩ dX12_pair_4 (fun v ty' w' hp hk' => ?_)
  rcases hp with ⟨c33564, hC, rfl, rfl⟩ | ⟨c33566, c33567, hC, rfl, rfl⟩
  · skip
    replace hF := FE.pos hF hC
    have b33569l := Int32.le_toInt z1
    have b33569h := Int32.toInt_lt z1
    show GW κ 9 0 0 (wM r g I A L) 7 [(0, .ref (r 0)), (1, .int z1), (2, .int z2)] [.int 0]
    refine g_if_eq (tgt := 19) (a := 0) hk dX12_pair_7 (by decide) rfl (fun _ => ?_) (fun z9 => absurd (show (0 : Int) = (0 : Int) from by decide) z9)
    refine g_iconst (v := (-1)) hk dX12_pair_19 (by decide) ?_
    exact g_iret hk hR rfl ⟨I, A, L, (show Md [18, 19, 20] I I from Md.rf), (show Md [18, 19, 20, 21] A A from Md.rf), hIv, (-1), (show L = L from rfl), hF, rfl, rfl⟩ dX12_pair_20
  · skip
    replace hF := FE.neg hF (fe_ne hC (by decide))
    show GW κ 9 0 0 (wM r g I A L) 7 [(0, .ref (r 0)), (1, .int z1), (2, .int z2)] [.int 1]
    refine g_if_eq (tgt := 19) (a := 1) hk dX12_pair_7 (by decide) rfl (fun z9 => absurd z9 (show ¬ ((1 : Int) = (0 : Int)) from by decide)) (fun _ => ?_)
    refine g_iload_n hk dX12_pair_10 rfl ?_
    refine g_iconst (v := 0) hk dX12_pair_11 (by decide) ?_
    refine g_iconst (v := 2) hk dX12_pair_12 (by decide) ?_
    have k33570 : (0 : Int32).toInt = 0 := rfl
    refine g_callS (n := 3) hk (j145_X12_in l D zt r g I A L z2 0 2 hIv) (SP.same _) (fun _ h => h) (gi_S (List.mem_cons_of_mem _ (List.mem_append_left _ (List.mem_of_getElem? (i := 0) rfl))) (List.mem_cons_of_mem _ (List.mem_append_left _ (List.mem_of_getElem? (i := 1) rfl))) (List.mem_cons_of_mem _ (List.mem_append_left _ (List.mem_of_getElem? (i := 2) rfl))) (gi_sub (fun w h => (List.mem_cons_of_mem _ (List.mem_append_right _ (List.mem_append_right _ (List.mem_append_left _ h))))) zg_j145_X12_in)) rfl rfl rfl (by decide +kernel) ⟨Nat.le_of_ble_eq_true rfl, Nat.le_of_ble_eq_true rfl⟩ rfl rfl (Nat.le_of_ble_eq_true rfl) ⟨Nat.le_of_ble_eq_true rfl, Nat.le_of_ble_eq_true rfl⟩ dX12_pair_13 (fun v ty' w' hp hk' => ?_)
    rcases hp with ⟨c33571, hC, rfl, rfl⟩ | ⟨c33573, c33574, hC, rfl, rfl⟩
    · skip
      replace hF := FE.pos hF hC
      have b33576l := Int32.le_toInt z2
      have b33576h := Int32.toInt_lt z2
      show GW κ 9 0 0 (wM r g I A L) 16 [(0, .ref (r 0)), (1, .int z1), (2, .int z2)] [.int 0]
      refine g_if_ne (tgt := 21) (a := 0) hk dX12_pair_16 (by decide) rfl (fun z9 => absurd z9 (show ¬ ((0 : Int) ≠ (0 : Int)) from by decide)) (fun _ => ?_)
      refine g_iconst (v := (-1)) hk dX12_pair_19 (by decide) ?_
      exact g_iret hk hR rfl ⟨I, A, L, (show Md [18, 19, 20] I I from Md.rf), (show Md [18, 19, 20, 21] A A from Md.rf), hIv, (-1), (show L = L from rfl), hF, rfl, rfl⟩ dX12_pair_20
    · skip
      replace hF := FE.neg hF (fe_ne hC (by decide))
      show GW κ 9 0 0 (wM r g I A L) 16 [(0, .ref (r 0)), (1, .int z1), (2, .int z2)] [.int 1]
      refine g_if_ne (tgt := 21) (a := 1) hk dX12_pair_16 (by decide) rfl (fun _ => ?_) (fun z9 => absurd (show (1 : Int) ≠ (0 : Int) from by decide) z9)
      refine g_aload_n hk dX12_pair_21 rfl ?_
      refine g_callV (n := 0) hk (j151_X12_copies l D zt r g I A L  hIv) (SP.same _) (fun _ h => h) (gi_V (List.mem_cons_of_mem _ (List.mem_append_left _ (List.mem_of_getElem? (i := 3) rfl))) (List.mem_cons_of_mem _ (List.mem_append_left _ (List.mem_of_getElem? (i := 4) rfl))) (List.mem_cons_of_mem _ (List.mem_append_left _ (List.mem_of_getElem? (i := 5) rfl))) (List.mem_cons_of_mem _ (List.mem_append_left _ (List.mem_of_getElem? (i := 2) rfl))) (gi_sub (fun w h => (List.mem_cons_of_mem _ (List.mem_append_right _ (List.mem_append_right _ (List.mem_append_right _ (List.mem_append_left _ h)))))) zg_j151_X12_copies)) rfl rfl rfl (by decide +kernel) ⟨Nat.le_of_ble_eq_true rfl, Nat.le_of_ble_eq_true rfl⟩ 0 rfl rfl rfl rfl (Nat.le_of_ble_eq_true rfl) ⟨Nat.le_of_ble_eq_true rfl, Nat.le_of_ble_eq_true rfl⟩ dX12_pair_22 (fun v ty' w' hp hk' => ?_)
      obtain ⟨I33578, A33578, L33578, hI33578, hA33578, hV33578, r33579, r33580, hL33578, hC, rfl, rfl⟩ := hp
      replace hF := FE.bdM hF hC
      have f33581 := IvM_s17_0 hIv
      have f33582 := IvM_s17_164 hIv
      show GW κ 9 0 0 (wM r g I33578 A33578 L33578) 25 [(0, .ref (r 0)), (1, .int z1), (2, .int z2)] []
      refine g_bipush (v := (-2)) hk dX12_pair_25 (by decide) ?_
      refine g_istore_n (lv' := [(3, .int (-2)), (0, .ref (r 0)), (1, .int z1), (2, .int z2)]) hk dX12_pair_27 (by decide) rfl ?_
      refine g_bipush (v := (-2)) hk dX12_pair_28 (by decide) ?_
      refine g_istore (lv' := [(4, .int (-2)), (3, .int (-2)), (0, .ref (r 0)), (1, .int z1), (2, .int z2)]) hk dX12_pair_30 (by decide) rfl ?_
      refine g_bipush (v := (-2)) hk dX12_pair_32 (by decide) ?_
      refine g_istore (lv' := [(5, .int (-2)), (4, .int (-2)), (3, .int (-2)), (0, .ref (r 0)), (1, .int z1), (2, .int z2)]) hk dX12_pair_34 (by decide) rfl ?_
      refine g_iconst (v := 0) hk dX12_pair_36 (by decide) ?_
      refine g_istore (lv' := [(6, .int 0), (5, .int (-2)), (4, .int (-2)), (3, .int (-2)), (0, .ref (r 0)), (1, .int z1), (2, .int z2)]) hk dX12_pair_37 (by decide) rfl ?_
      have lp34309 : ∀ (n34310 : Nat) (x33583 : Int32) (x33584 : Int32) (x33585 : Int32) (x33586 : Int32) (I33590 : Nat → Int32) (A33590 : Nat → Nat → Int32) (L33590 : Nat → Nat → Int64), (Md [18, 19, 20] I33578 I33590) → (Md [19, 20, 21] A33578 A33590) → (IvM I33590 A33590) → (L33590 = L33578) → (0 ≤ x33583.toInt) → (x33583.toInt ≤ 160) → ((-2) ≤ x33585.toInt) → (x33585.toInt ≤ 159) → ((-2) ≤ x33586.toInt) → (x33586.toInt ≤ 159) → (161 - x33583.toInt < (n34310 : Int)) → (0 < n34310) → (FE (fM12_pair I A L z1 z2) (itr_iiiiIAL dfM (bM12_pair_39 A z2 z1) n34310 x33583 x33584 x33585 x33586 I33590 A33590 L33590)) → GW κ 9 0 0 (wM r g I33590 A33590 L33590) 39 [(6, .int x33583), (5, .int x33584), (4, .int x33585), (3, .int x33586), (0, .ref (r 0)), (1, .int z1), (2, .int z2)] [] := by
        intro n34310
        induction n34310 with
        | zero =>
          intro x33583 x33584 x33585 x33586 I33590 A33590 L33590 hI33590 hA33590 hV33590 hL33590 h34303 h34304 h34305 h34306 h34307 h34308 m34311 m34311z hF
          exact absurd m34311z (Nat.lt_irrefl 0)
        | succ n34310 ih34313 =>
          intro x33583 x33584 x33585 x33586 I33590 A33590 L33590 hI33590 hA33590 hV33590 hL33590 h34303 h34304 h34305 h34306 h34307 h34308 m34311 m34311z hF
          replace hF := FE.itr_iiiiIAL hF
          refine g_iload hk dX12_pair_39 rfl ?_
          refine g_aload_n hk dX12_pair_41 rfl ?_
          refine gM_r0_35 hk hin12 (List.mem_cons_of_mem _ (List.mem_append_left _ (List.mem_of_getElem? (i := 6) rfl))) dX12_pair_42 ?_
          refine g_iconst (v := 0) hk dX12_pair_45 (by decide) ?_
          refine lM_17 (v := (A 17 0)) hk (vp_in_iff.mpr ⟨by decide, by decide⟩) ((congrFun (hA33590 17 rfl) _).trans (congrFun (hA33578 17 rfl) _)) dX12_pair_46 ?_
          refine g_icmp_ge (tgt := 148) (a := x33583.toInt) (b := (A 17 0).toInt) hk dX12_pair_47 (by decide) rfl rfl (fun c34314 => ?_) (fun c34314 => ?_)
          · skip
            replace hF := FE.pos hF c34314
            refine g_iload_n hk dX12_pair_148 rfl ?_
            refine g_if_ne (tgt := 156) (a := z2.toInt) hk dX12_pair_149 (by decide) rfl (fun c34315 => ?_) (fun c34315 => ?_)
            · skip
              replace hF := FE.pos hF c34315
              refine g_iload_n hk dX12_pair_156 rfl ?_
              refine g_iconst (v := 1) hk dX12_pair_157 (by decide) ?_
              refine g_icmp_ne (tgt := 166) (a := z2.toInt) (b := 1) hk dX12_pair_158 (by decide) rfl rfl (fun c34316 => ?_) (fun c34316 => ?_)
              · skip
                replace hF := FE.pos hF c34316
                refine g_iload hk dX12_pair_166 rfl ?_
                have b34317l := Int32.le_toInt x33584
                have b34317h := Int32.toInt_lt x33584
                exact g_iret hk hR rfl ⟨I33590, A33590, L33590, (show Md [18, 19, 20] I I33590 from (Md.tr (Md.tr Md.rf hI33578 rfl) hI33590 rfl)), (show Md [18, 19, 20, 21] A A33590 from (Md.tr (Md.tr Md.rf hA33578 rfl) hA33590 rfl)), hV33590, x33584, (show L33590 = L from (hL33590.trans hL33578)), hF, rfl, rfl⟩ dX12_pair_168
              · skip
                replace hF := FE.neg hF c34316
                refine g_iload hk dX12_pair_161 rfl ?_
                refine g_goto (tgt := 168) hk dX12_pair_163 (by decide) ?_
                exact g_iret hk hR rfl ⟨I33590, A33590, L33590, (show Md [18, 19, 20] I I33590 from (Md.tr (Md.tr Md.rf hI33578 rfl) hI33590 rfl)), (show Md [18, 19, 20, 21] A A33590 from (Md.tr (Md.tr Md.rf hA33578 rfl) hA33590 rfl)), hV33590, x33585, (show L33590 = L from (hL33590.trans hL33578)), hF, rfl, rfl⟩ dX12_pair_168
            · skip
              replace hF := FE.neg hF c34315
              refine g_iload_n hk dX12_pair_152 rfl ?_
              refine g_goto (tgt := 168) hk dX12_pair_153 (by decide) ?_
              exact g_iret hk hR rfl ⟨I33590, A33590, L33590, (show Md [18, 19, 20] I I33590 from (Md.tr (Md.tr Md.rf hI33578 rfl) hI33590 rfl)), (show Md [18, 19, 20, 21] A A33590 from (Md.tr (Md.tr Md.rf hA33578 rfl) hA33590 rfl)), hV33590, x33586, (show L33590 = L from (hL33590.trans hL33578)), hF, rfl, rfl⟩ dX12_pair_168
          · skip
            replace hF := FE.neg hF c34314
            refine g_aload_n hk dX12_pair_50 rfl ?_
            refine g_iload hk dX12_pair_51 rfl ?_
            refine g_iload_n hk dX12_pair_53 rfl ?_
            refine g_callV (n := 2) hk (j160_X12_isWindow l D zt r g I33590 A33590 L33590 x33583 z1 hV33590) (SP.same _) (fun _ h => h) (gi_V (List.mem_cons_of_mem _ (List.mem_append_left _ (List.mem_of_getElem? (i := 7) rfl))) (List.mem_cons_of_mem _ (List.mem_append_left _ (List.mem_of_getElem? (i := 8) rfl))) (List.mem_cons_of_mem _ (List.mem_append_left _ (List.mem_of_getElem? (i := 9) rfl))) (List.mem_cons_of_mem _ (List.mem_append_left _ (List.mem_of_getElem? (i := 2) rfl))) (gi_sub (fun w h => (List.mem_cons_of_mem _ (List.mem_append_right _ (List.mem_append_right _ (List.mem_append_right _ (List.mem_append_right _ (List.mem_append_left _ h))))))) zg_j160_X12_isWindow)) rfl rfl rfl (by decide +kernel) ⟨Nat.le_of_ble_eq_true rfl, Nat.le_of_ble_eq_true rfl⟩ 0 rfl rfl rfl rfl (Nat.le_of_ble_eq_true rfl) ⟨Nat.le_of_ble_eq_true rfl, Nat.le_of_ble_eq_true rfl⟩ dX12_pair_54 (fun v ty' w' hp hk' => ?_)
            rcases hp with ⟨hC, rfl, rfl⟩ | ⟨c34319, c34320, c34321, c34322, c34323, c34324, c34325, hC, rfl, rfl⟩
            · skip
              replace hF := FE.pos hF hC
              show GW κ 9 0 0 (wM r g I33590 A33590 L33590) 57 [(6, .int x33583), (5, .int x33584), (4, .int x33585), (3, .int x33586), (0, .ref (r 0)), (1, .int z1), (2, .int z2)] [.int 0]
              refine g_if_ne (tgt := 63) (a := 0) hk dX12_pair_57 (by decide) rfl (fun z9 => absurd z9 (show ¬ ((0 : Int) ≠ (0 : Int)) from by decide)) (fun _ => ?_)
              refine g_goto (tgt := 142) hk dX12_pair_60 (by decide) ?_
              obtain ⟨y34327, ey34327⟩ : ∃ y : Int32, y = x33583 + Int32.ofInt 1 := ⟨_, rfl⟩
              replace hF := FE.lt hF ey34327
              have hy34327 : y34327.toInt = x33583.toInt + 1 := i32_add ey34327 rfl (by decide) (by omega) (by omega)
              refine g_iinc (v := y34327) (lv' := [(6, .int y34327), (5, .int x33584), (4, .int x33585), (3, .int x33586), (0, .ref (r 0)), (1, .int z1), (2, .int z2)]) hk 0 dX12_pair_142 rfl ey34327.symm (by decide) rfl ?_
              refine g_goto (tgt := 39) hk dX12_pair_145 (by decide) ?_
              have b34328l := Int32.le_toInt x33584
              have b34328h := Int32.toInt_lt x33584
              exact g_lv (List.forall_mem_cons.mpr ⟨List.mem_of_getElem? (i := 0) rfl, (List.forall_mem_cons.mpr ⟨List.mem_of_getElem? (i := 1) rfl, (List.forall_mem_cons.mpr ⟨List.mem_of_getElem? (i := 2) rfl, (List.forall_mem_cons.mpr ⟨List.mem_of_getElem? (i := 3) rfl, (List.forall_mem_cons.mpr ⟨List.mem_of_getElem? (i := 4) rfl, (List.forall_mem_cons.mpr ⟨List.mem_of_getElem? (i := 5) rfl, (List.forall_mem_cons.mpr ⟨List.mem_of_getElem? (i := 6) rfl, (fun _ h => absurd h List.not_mem_nil)⟩)⟩)⟩)⟩)⟩)⟩)⟩) (ih34313 y34327 x33584 x33585 x33586 I33590 A33590 L33590 (show Md [18, 19, 20] I33578 I33590 from Md.tr hI33590 (show Md [18, 19, 20] I33590 I33590 from Md.rf) rfl) (show Md [19, 20, 21] A33578 A33590 from Md.tr hA33590 (show Md [19, 20, 21] A33590 A33590 from Md.rf) rfl) hV33590 (show L33590 = L33578 from hL33590) (by omega) (by omega) (by omega) (by omega) (by omega) (by omega) (by omega) (by omega) hF)
            · skip
              replace hF := FE.neg hF (fe_ne hC (by decide))
              show GW κ 9 0 0 (wM r g I33590 A33590 L33590) 57 [(6, .int x33583), (5, .int x33584), (4, .int x33585), (3, .int x33586), (0, .ref (r 0)), (1, .int z1), (2, .int z2)] [.int 1]
              refine g_if_ne (tgt := 63) (a := 1) hk dX12_pair_57 (by decide) rfl (fun _ => ?_) (fun z9 => absurd (show (1 : Int) ≠ (0 : Int) from by decide) z9)
              refine g_iload hk dX12_pair_63 rfl ?_
              refine g_iload_n hk dX12_pair_65 rfl ?_
              refine g_iadd hk dX12_pair_66 ?_
              refine g_topi (fun y34329 ey34329 => ?_)
              replace hF := FE.lt hF ey34329
              have hy34329 : y34329.toInt = x33583.toInt + z1.toInt := i32_add ey34329 rfl rfl (by omega) (by omega)
              refine g_istore (lv' := [(7, .int y34329), (6, .int x33583), (5, .int x33584), (4, .int x33585), (3, .int x33586), (0, .ref (r 0)), (1, .int z1), (2, .int z2)]) hk dX12_pair_67 (by decide) rfl ?_
              have lp34399 : ∀ (n34400 : Nat) (x34330 : Int32) (x34332 : Int32) (x34333 : Int32) (x34334 : Int32) (I34338 : Nat → Int32) (A34338 : Nat → Nat → Int32) (L34338 : Nat → Nat → Int64), (Md [18, 19, 20] I33590 I34338) → (Md [19, 20, 21] A33590 A34338) → (IvM I34338 A34338) → (L34338 = L33590) → (2 ≤ x34330.toInt) → (x34330.toInt ≤ 175) → ((-2) ≤ x34333.toInt) → (x34333.toInt ≤ 159) → ((-2) ≤ x34334.toInt) → (x34334.toInt ≤ 159) → (161 - x34330.toInt < (n34400 : Int)) → (0 < n34400) → (FE (fM12_pair I A L z1 z2) (itr_iiiiIAL dfM (bM12_pair_69 A x33583 (itr_iiiiIAL dfM (bM12_pair_39 A z2 z1) n34310) z1) n34400 x34330 x34332 x34333 x34334 I34338 A34338 L34338)) → GW κ 9 0 0 (wM r g I34338 A34338 L34338) 69 [(7, .int x34330), (6, .int x33583), (5, .int x34332), (4, .int x34333), (3, .int x34334), (0, .ref (r 0)), (1, .int z1), (2, .int z2)] [] := by
                intro n34400
                induction n34400 with
                | zero =>
                  intro x34330 x34332 x34333 x34334 I34338 A34338 L34338 hI34338 hA34338 hV34338 hL34338 h34393 h34394 h34395 h34396 h34397 h34398 m34401 m34401z hF
                  exact absurd m34401z (Nat.lt_irrefl 0)
                | succ n34400 ih34403 =>
                  intro x34330 x34332 x34333 x34334 I34338 A34338 L34338 hI34338 hA34338 hV34338 hL34338 h34393 h34394 h34395 h34396 h34397 h34398 m34401 m34401z hF
                  replace hF := FE.itr_iiiiIAL hF
                  refine g_iload hk dX12_pair_69 rfl ?_
                  refine g_aload_n hk dX12_pair_71 rfl ?_
                  refine gM_r0_35 hk hin12 (List.mem_cons_of_mem _ (List.mem_append_left _ (List.mem_of_getElem? (i := 6) rfl))) dX12_pair_72 ?_
                  refine g_iconst (v := 0) hk dX12_pair_75 (by decide) ?_
                  refine lM_17 (v := (A 17 0)) hk (vp_in_iff.mpr ⟨by decide, by decide⟩) ((congrFun (hA34338 17 rfl) _).trans ((congrFun (hA33590 17 rfl) _).trans (congrFun (hA33578 17 rfl) _))) dX12_pair_76 ?_
                  refine g_icmp_ge (tgt := 142) (a := x34330.toInt) (b := (A 17 0).toInt) hk dX12_pair_77 (by decide) rfl rfl (fun c34404 => ?_) (fun c34404 => ?_)
                  · skip
                    replace hF := FE.pos hF c34404
                    obtain ⟨y34405, ey34405⟩ : ∃ y : Int32, y = x33583 + Int32.ofInt 1 := ⟨_, rfl⟩
                    replace hF := FE.lt hF ey34405
                    have hy34405 : y34405.toInt = x33583.toInt + 1 := i32_add ey34405 rfl (by decide) (by omega) (by omega)
                    refine g_iinc (v := y34405) (lv' := [(6, .int y34405), (7, .int x34330), (5, .int x34332), (4, .int x34333), (3, .int x34334), (0, .ref (r 0)), (1, .int z1), (2, .int z2)]) hk 1 dX12_pair_142 rfl ey34405.symm (by decide) rfl ?_
                    refine g_goto (tgt := 39) hk dX12_pair_145 (by decide) ?_
                    have b34406l := Int32.le_toInt x34332
                    have b34406h := Int32.toInt_lt x34332
                    exact g_lv (List.forall_mem_cons.mpr ⟨List.mem_of_getElem? (i := 0) rfl, (List.forall_mem_cons.mpr ⟨List.mem_of_getElem? (i := 2) rfl, (List.forall_mem_cons.mpr ⟨List.mem_of_getElem? (i := 3) rfl, (List.forall_mem_cons.mpr ⟨List.mem_of_getElem? (i := 4) rfl, (List.forall_mem_cons.mpr ⟨List.mem_of_getElem? (i := 5) rfl, (List.forall_mem_cons.mpr ⟨List.mem_of_getElem? (i := 6) rfl, (List.forall_mem_cons.mpr ⟨List.mem_of_getElem? (i := 7) rfl, (fun _ h => absurd h List.not_mem_nil)⟩)⟩)⟩)⟩)⟩)⟩)⟩) (ih34313 y34405 x34332 x34333 x34334 I34338 A34338 L34338 (show Md [18, 19, 20] I33578 I34338 from Md.tr hI33590 (show Md [18, 19, 20] I33590 I34338 from (Md.tr Md.rf hI34338 rfl)) rfl) (show Md [19, 20, 21] A33578 A34338 from Md.tr hA33590 (show Md [19, 20, 21] A33590 A34338 from (Md.tr Md.rf hA34338 rfl)) rfl) hV34338 (show L34338 = L33578 from (hL34338.trans hL33590)) (by omega) (by omega) (by omega) (by omega) (by omega) (by omega) (by omega) (by omega) hF)
                  · skip
                    replace hF := FE.neg hF c34404
                    refine g_aload_n hk dX12_pair_80 rfl ?_
                    refine g_iload hk dX12_pair_81 rfl ?_
                    refine g_iload_n hk dX12_pair_83 rfl ?_
                    refine g_callV (n := 2) hk (j160_X12_isWindow l D zt r g I34338 A34338 L34338 x34330 z1 hV34338) (SP.same _) (fun _ h => h) (gi_V (List.mem_cons_of_mem _ (List.mem_append_left _ (List.mem_of_getElem? (i := 7) rfl))) (List.mem_cons_of_mem _ (List.mem_append_left _ (List.mem_of_getElem? (i := 8) rfl))) (List.mem_cons_of_mem _ (List.mem_append_left _ (List.mem_of_getElem? (i := 9) rfl))) (List.mem_cons_of_mem _ (List.mem_append_left _ (List.mem_of_getElem? (i := 2) rfl))) (gi_sub (fun w h => (List.mem_cons_of_mem _ (List.mem_append_right _ (List.mem_append_right _ (List.mem_append_right _ (List.mem_append_right _ (List.mem_append_left _ h))))))) zg_j160_X12_isWindow)) rfl rfl rfl (by decide +kernel) ⟨Nat.le_of_ble_eq_true rfl, Nat.le_of_ble_eq_true rfl⟩ 0 rfl rfl rfl rfl (Nat.le_of_ble_eq_true rfl) ⟨Nat.le_of_ble_eq_true rfl, Nat.le_of_ble_eq_true rfl⟩ dX12_pair_84 (fun v ty' w' hp hk' => ?_)
                    rcases hp with ⟨hC, rfl, rfl⟩ | ⟨c34408, c34409, c34410, c34411, c34412, c34413, c34414, hC, rfl, rfl⟩
                    · skip
                      replace hF := FE.pos hF hC
                      show GW κ 9 0 0 (wM r g I34338 A34338 L34338) 87 [(7, .int x34330), (6, .int x33583), (5, .int x34332), (4, .int x34333), (3, .int x34334), (0, .ref (r 0)), (1, .int z1), (2, .int z2)] [.int 0]
                      refine g_if_ne (tgt := 93) (a := 0) hk dX12_pair_87 (by decide) rfl (fun z9 => absurd z9 (show ¬ ((0 : Int) ≠ (0 : Int)) from by decide)) (fun _ => ?_)
                      refine g_goto (tgt := 136) hk dX12_pair_90 (by decide) ?_
                      obtain ⟨y34416, ey34416⟩ : ∃ y : Int32, y = x34330 + Int32.ofInt 1 := ⟨_, rfl⟩
                      replace hF := FE.lt hF ey34416
                      have hy34416 : y34416.toInt = x34330.toInt + 1 := i32_add ey34416 rfl (by decide) (by omega) (by omega)
                      refine g_iinc (v := y34416) (lv' := [(7, .int y34416), (6, .int x33583), (5, .int x34332), (4, .int x34333), (3, .int x34334), (0, .ref (r 0)), (1, .int z1), (2, .int z2)]) hk 0 dX12_pair_136 rfl ey34416.symm (by decide) rfl ?_
                      refine g_goto (tgt := 69) hk dX12_pair_139 (by decide) ?_
                      have b34417l := Int32.le_toInt x34332
                      have b34417h := Int32.toInt_lt x34332
                      exact g_lv (List.forall_mem_cons.mpr ⟨List.mem_of_getElem? (i := 0) rfl, (List.forall_mem_cons.mpr ⟨List.mem_of_getElem? (i := 1) rfl, (List.forall_mem_cons.mpr ⟨List.mem_of_getElem? (i := 2) rfl, (List.forall_mem_cons.mpr ⟨List.mem_of_getElem? (i := 3) rfl, (List.forall_mem_cons.mpr ⟨List.mem_of_getElem? (i := 4) rfl, (List.forall_mem_cons.mpr ⟨List.mem_of_getElem? (i := 5) rfl, (List.forall_mem_cons.mpr ⟨List.mem_of_getElem? (i := 6) rfl, (List.forall_mem_cons.mpr ⟨List.mem_of_getElem? (i := 7) rfl, (fun _ h => absurd h List.not_mem_nil)⟩)⟩)⟩)⟩)⟩)⟩)⟩)⟩) (ih34403 y34416 x34332 x34333 x34334 I34338 A34338 L34338 (show Md [18, 19, 20] I33590 I34338 from Md.tr hI34338 (show Md [18, 19, 20] I34338 I34338 from Md.rf) rfl) (show Md [19, 20, 21] A33590 A34338 from Md.tr hA34338 (show Md [19, 20, 21] A34338 A34338 from Md.rf) rfl) hV34338 (show L34338 = L33590 from hL34338) (by omega) (by omega) (by omega) (by omega) (by omega) (by omega) (by omega) (by omega) hF)
                    · skip
                      replace hF := FE.neg hF (fe_ne hC (by decide))
                      show GW κ 9 0 0 (wM r g I34338 A34338 L34338) 87 [(7, .int x34330), (6, .int x33583), (5, .int x34332), (4, .int x34333), (3, .int x34334), (0, .ref (r 0)), (1, .int z1), (2, .int z2)] [.int 1]
                      refine g_if_ne (tgt := 93) (a := 1) hk dX12_pair_87 (by decide) rfl (fun _ => ?_) (fun z9 => absurd (show (1 : Int) ≠ (0 : Int) from by decide) z9)
                      refine g_aload_n hk dX12_pair_93 rfl ?_
                      refine g_iload hk dX12_pair_94 rfl ?_
                      refine g_iload hk dX12_pair_96 rfl ?_
                      refine g_iload_n hk dX12_pair_98 rfl ?_
                      refine g_callV (n := 3) hk (j200_X12_laysWindows l D zt r g I34338 A34338 L34338 x33583 x34330 z1 hV34338 (by omega) (by omega) (by omega) (by omega) (by omega) (by omega) (by omega) (by omega)) (SP.same _) (fun _ h => h) (gi_V (List.mem_cons_of_mem _ (List.mem_append_left _ (List.mem_of_getElem? (i := 10) rfl))) (List.mem_cons_of_mem _ (List.mem_append_left _ (List.mem_of_getElem? (i := 11) rfl))) (List.mem_cons_of_mem _ (List.mem_append_left _ (List.mem_of_getElem? (i := 12) rfl))) (List.mem_cons_of_mem _ (List.mem_append_left _ (List.mem_of_getElem? (i := 2) rfl))) (gi_sub (fun w h => (List.mem_cons_of_mem _ (List.mem_append_right _ (List.mem_append_right _ (List.mem_append_right _ (List.mem_append_right _ (List.mem_append_right _ (List.mem_append_left _ h)))))))) zg_j200_X12_laysWindows)) rfl rfl rfl (by decide +kernel) ⟨Nat.le_of_ble_eq_true rfl, Nat.le_of_ble_eq_true rfl⟩ 0 rfl rfl rfl rfl (Nat.le_of_ble_eq_true rfl) ⟨Nat.le_of_ble_eq_true rfl, Nat.le_of_ble_eq_true rfl⟩ dX12_pair_99 (fun v ty' w' hp hk' => ?_)
                      obtain ⟨I34419, A34419, L34419, hI34419, hA34419, hV34419, r34420, hL34419, hC, rfl, rfl⟩ := hp
                      replace hF := FE.bdM hF hC
                      have f34421 := IvM_f18 hV34419
                      show GW κ 9 0 0 (wM r g I34419 A34419 L34419) 102 [(7, .int x34330), (6, .int x33583), (5, .int x34332), (4, .int x34333), (3, .int x34334), (0, .ref (r 0)), (1, .int z1), (2, .int z2)] []
                      refine g_aload_n hk dX12_pair_102 rfl ?_
                      refine g_ldcw (v := 2000000000) hk (List.mem_cons_of_mem _ (List.mem_append_left _ (List.mem_of_getElem? (i := 13) rfl))) dX12_pair_103 ?_
                      have k34422 : (2000000000 : Int32).toInt = 2000000000 := rfl
                      refine g_callV (n := 1) hk (j173_X12_laysTable l D zt r g I34419 A34419 L34419 2000000000 hV34419) (SP.same _) (fun _ h => h) (gi_V (List.mem_cons_of_mem _ (List.mem_append_left _ (List.mem_of_getElem? (i := 14) rfl))) (List.mem_cons_of_mem _ (List.mem_append_left _ (List.mem_of_getElem? (i := 15) rfl))) (List.mem_cons_of_mem _ (List.mem_append_left _ (List.mem_of_getElem? (i := 16) rfl))) (List.mem_cons_of_mem _ (List.mem_append_left _ (List.mem_of_getElem? (i := 2) rfl))) (gi_sub (fun w h => (List.mem_cons_of_mem _ (List.mem_append_right _ (List.mem_append_right _ (List.mem_append_right _ (List.mem_append_right _ (List.mem_append_right _ (List.mem_append_right _ (List.mem_append_left _ h))))))))) zg_j173_X12_laysTable)) rfl rfl rfl (by decide +kernel) ⟨Nat.le_of_ble_eq_true rfl, Nat.le_of_ble_eq_true rfl⟩ 0 rfl rfl rfl rfl (Nat.le_of_ble_eq_true rfl) ⟨Nat.le_of_ble_eq_true rfl, Nat.le_of_ble_eq_true rfl⟩ dX12_pair_106 (fun v ty' w' hp hk' => ?_)
                      obtain ⟨I34424, A34424, L34424, hI34424, hA34424, hV34424, y34423, hL34424, hC, rfl, rfl⟩ := hp
                      replace hF := FE.bdM hF hC
                      show GW κ 9 0 0 (wM r g I34424 A34424 L34424) 109 [(7, .int x34330), (6, .int x33583), (5, .int x34332), (4, .int x34333), (3, .int x34334), (0, .ref (r 0)), (1, .int z1), (2, .int z2)] [.int y34423]
                      refine g_istore (lv' := [(8, .int y34423), (7, .int x34330), (6, .int x33583), (5, .int x34332), (4, .int x34333), (3, .int x34334), (0, .ref (r 0)), (1, .int z1), (2, .int z2)]) hk dX12_pair_109 (by decide) rfl ?_
                      refine g_iload_n hk dX12_pair_111 rfl ?_
                      refine g_if_lt (tgt := 125) (a := x34334.toInt) hk dX12_pair_112 (by decide) rfl (fun c34425 => ?_) (fun c34425 => ?_)
                      · skip
                        replace hF := FE.pos hF c34425
                        refine g_iload hk dX12_pair_125 rfl ?_
                        refine g_istore_n (lv' := [(3, .int x33583), (8, .int y34423), (7, .int x34330), (6, .int x33583), (5, .int x34332), (4, .int x34333), (0, .ref (r 0)), (1, .int z1), (2, .int z2)]) hk dX12_pair_127 (by decide) rfl ?_
                        refine g_iload hk dX12_pair_128 rfl ?_
                        refine g_istore (lv' := [(4, .int x34330), (3, .int x33583), (8, .int y34423), (7, .int x34330), (6, .int x33583), (5, .int x34332), (0, .ref (r 0)), (1, .int z1), (2, .int z2)]) hk dX12_pair_130 (by decide) rfl ?_
                        refine g_iload hk dX12_pair_132 rfl ?_
                        refine g_istore (lv' := [(5, .int y34423), (4, .int x34330), (3, .int x33583), (8, .int y34423), (7, .int x34330), (6, .int x33583), (0, .ref (r 0)), (1, .int z1), (2, .int z2)]) hk dX12_pair_134 (by decide) rfl ?_
                        obtain ⟨y34426, ey34426⟩ : ∃ y : Int32, y = x34330 + Int32.ofInt 1 := ⟨_, rfl⟩
                        replace hF := FE.lt hF ey34426
                        have hy34426 : y34426.toInt = x34330.toInt + 1 := i32_add ey34426 rfl (by decide) (by omega) (by omega)
                        refine g_iinc (v := y34426) (lv' := [(7, .int y34426), (5, .int y34423), (4, .int x34330), (3, .int x33583), (8, .int y34423), (6, .int x33583), (0, .ref (r 0)), (1, .int z1), (2, .int z2)]) hk 4 dX12_pair_136 rfl ey34426.symm (by decide) rfl ?_
                        refine g_goto (tgt := 69) hk dX12_pair_139 (by decide) ?_
                        have b34427l := Int32.le_toInt y34423
                        have b34427h := Int32.toInt_lt y34423
                        exact g_lv (List.forall_mem_cons.mpr ⟨List.mem_of_getElem? (i := 0) rfl, (List.forall_mem_cons.mpr ⟨List.mem_of_getElem? (i := 5) rfl, (List.forall_mem_cons.mpr ⟨List.mem_of_getElem? (i := 1) rfl, (List.forall_mem_cons.mpr ⟨List.mem_of_getElem? (i := 2) rfl, (List.forall_mem_cons.mpr ⟨List.mem_of_getElem? (i := 3) rfl, (List.forall_mem_cons.mpr ⟨List.mem_of_getElem? (i := 6) rfl, (List.forall_mem_cons.mpr ⟨List.mem_of_getElem? (i := 7) rfl, (List.forall_mem_cons.mpr ⟨List.mem_of_getElem? (i := 8) rfl, (fun _ h => absurd h List.not_mem_nil)⟩)⟩)⟩)⟩)⟩)⟩)⟩)⟩) (ih34403 y34426 y34423 x34330 x33583 I34424 A34424 L34424 (show Md [18, 19, 20] I33590 I34424 from Md.tr hI34338 (show Md [18, 19, 20] I34338 I34424 from (Md.tr (Md.tr Md.rf hI34419 rfl) hI34424 rfl)) rfl) (show Md [19, 20, 21] A33590 A34424 from Md.tr hA34338 (show Md [19, 20, 21] A34338 A34424 from (Md.tr (Md.tr Md.rf hA34419 rfl) hA34424 rfl)) rfl) hV34424 (show L34424 = L33590 from ((hL34424.trans hL34419).trans hL34338)) (by omega) (by omega) (by omega) (by omega) (by omega) (by omega) (by omega) (by omega) hF)
                      · skip
                        replace hF := FE.neg hF c34425
                        refine g_iload hk dX12_pair_115 rfl ?_
                        refine g_iload hk dX12_pair_117 rfl ?_
                        have b34428l := Int32.le_toInt y34423
                        have b34428h := Int32.toInt_lt y34423
                        have b34429l := Int32.le_toInt x34332
                        have b34429h := Int32.toInt_lt x34332
                        refine g_icmp_lt (tgt := 125) (a := y34423.toInt) (b := x34332.toInt) hk dX12_pair_119 (by decide) rfl rfl (fun c34430 => ?_) (fun c34430 => ?_)
                        · skip
                          replace hF := FE.pos hF c34430
                          refine g_iload hk dX12_pair_125 rfl ?_
                          refine g_istore_n (lv' := [(3, .int x33583), (8, .int y34423), (7, .int x34330), (6, .int x33583), (5, .int x34332), (4, .int x34333), (0, .ref (r 0)), (1, .int z1), (2, .int z2)]) hk dX12_pair_127 (by decide) rfl ?_
                          refine g_iload hk dX12_pair_128 rfl ?_
                          refine g_istore (lv' := [(4, .int x34330), (3, .int x33583), (8, .int y34423), (7, .int x34330), (6, .int x33583), (5, .int x34332), (0, .ref (r 0)), (1, .int z1), (2, .int z2)]) hk dX12_pair_130 (by decide) rfl ?_
                          refine g_iload hk dX12_pair_132 rfl ?_
                          refine g_istore (lv' := [(5, .int y34423), (4, .int x34330), (3, .int x33583), (8, .int y34423), (7, .int x34330), (6, .int x33583), (0, .ref (r 0)), (1, .int z1), (2, .int z2)]) hk dX12_pair_134 (by decide) rfl ?_
                          obtain ⟨y34431, ey34431⟩ : ∃ y : Int32, y = x34330 + Int32.ofInt 1 := ⟨_, rfl⟩
                          replace hF := FE.lt hF ey34431
                          have hy34431 : y34431.toInt = x34330.toInt + 1 := i32_add ey34431 rfl (by decide) (by omega) (by omega)
                          refine g_iinc (v := y34431) (lv' := [(7, .int y34431), (5, .int y34423), (4, .int x34330), (3, .int x33583), (8, .int y34423), (6, .int x33583), (0, .ref (r 0)), (1, .int z1), (2, .int z2)]) hk 4 dX12_pair_136 rfl ey34431.symm (by decide) rfl ?_
                          refine g_goto (tgt := 69) hk dX12_pair_139 (by decide) ?_
                          exact g_lv (List.forall_mem_cons.mpr ⟨List.mem_of_getElem? (i := 0) rfl, (List.forall_mem_cons.mpr ⟨List.mem_of_getElem? (i := 5) rfl, (List.forall_mem_cons.mpr ⟨List.mem_of_getElem? (i := 1) rfl, (List.forall_mem_cons.mpr ⟨List.mem_of_getElem? (i := 2) rfl, (List.forall_mem_cons.mpr ⟨List.mem_of_getElem? (i := 3) rfl, (List.forall_mem_cons.mpr ⟨List.mem_of_getElem? (i := 6) rfl, (List.forall_mem_cons.mpr ⟨List.mem_of_getElem? (i := 7) rfl, (List.forall_mem_cons.mpr ⟨List.mem_of_getElem? (i := 8) rfl, (fun _ h => absurd h List.not_mem_nil)⟩)⟩)⟩)⟩)⟩)⟩)⟩)⟩) (ih34403 y34431 y34423 x34330 x33583 I34424 A34424 L34424 (show Md [18, 19, 20] I33590 I34424 from Md.tr hI34338 (show Md [18, 19, 20] I34338 I34424 from (Md.tr (Md.tr Md.rf hI34419 rfl) hI34424 rfl)) rfl) (show Md [19, 20, 21] A33590 A34424 from Md.tr hA34338 (show Md [19, 20, 21] A34338 A34424 from (Md.tr (Md.tr Md.rf hA34419 rfl) hA34424 rfl)) rfl) hV34424 (show L34424 = L33590 from ((hL34424.trans hL34419).trans hL34338)) (by omega) (by omega) (by omega) (by omega) (by omega) (by omega) (by omega) (by omega) hF)
                        · skip
                          replace hF := FE.neg hF c34430
                          refine g_goto (tgt := 136) hk dX12_pair_122 (by decide) ?_
                          obtain ⟨y34432, ey34432⟩ : ∃ y : Int32, y = x34330 + Int32.ofInt 1 := ⟨_, rfl⟩
                          replace hF := FE.lt hF ey34432
                          have hy34432 : y34432.toInt = x34330.toInt + 1 := i32_add ey34432 rfl (by decide) (by omega) (by omega)
                          refine g_iinc (v := y34432) (lv' := [(7, .int y34432), (8, .int y34423), (6, .int x33583), (5, .int x34332), (4, .int x34333), (3, .int x34334), (0, .ref (r 0)), (1, .int z1), (2, .int z2)]) hk 1 dX12_pair_136 rfl ey34432.symm (by decide) rfl ?_
                          refine g_goto (tgt := 69) hk dX12_pair_139 (by decide) ?_
                          exact g_lv (List.forall_mem_cons.mpr ⟨List.mem_of_getElem? (i := 0) rfl, (List.forall_mem_cons.mpr ⟨List.mem_of_getElem? (i := 2) rfl, (List.forall_mem_cons.mpr ⟨List.mem_of_getElem? (i := 3) rfl, (List.forall_mem_cons.mpr ⟨List.mem_of_getElem? (i := 4) rfl, (List.forall_mem_cons.mpr ⟨List.mem_of_getElem? (i := 5) rfl, (List.forall_mem_cons.mpr ⟨List.mem_of_getElem? (i := 6) rfl, (List.forall_mem_cons.mpr ⟨List.mem_of_getElem? (i := 7) rfl, (List.forall_mem_cons.mpr ⟨List.mem_of_getElem? (i := 8) rfl, (fun _ h => absurd h List.not_mem_nil)⟩)⟩)⟩)⟩)⟩)⟩)⟩)⟩) (ih34403 y34432 x34332 x34333 x34334 I34424 A34424 L34424 (show Md [18, 19, 20] I33590 I34424 from Md.tr hI34338 (show Md [18, 19, 20] I34338 I34424 from (Md.tr (Md.tr Md.rf hI34419 rfl) hI34424 rfl)) rfl) (show Md [19, 20, 21] A33590 A34424 from Md.tr hA34338 (show Md [19, 20, 21] A34338 A34424 from (Md.tr (Md.tr Md.rf hA34419 rfl) hA34424 rfl)) rfl) hV34424 (show L34424 = L33590 from ((hL34424.trans hL34419).trans hL34338)) (by omega) (by omega) (by omega) (by omega) (by omega) (by omega) (by omega) (by omega) hF)
              have b34433l := Int32.le_toInt x33584
              have b34433h := Int32.toInt_lt x33584
              have b34435 := Int32.le_toInt y34329
              have b34436 := Int32.toInt_lt y34329
              have n34434a : 161 - y34329.toInt < (FU : Int) := by have := FU_eq; omega
              have n34434b : 0 < FU := by have := FU_eq; omega
              exact lp34399 FU y34329 x33584 x33585 x33586 I33590 A33590 L33590 Md.rf Md.rf hV33590 rfl (by omega) (by omega) (by omega) (by omega) (by omega) (by omega) n34434a n34434b hF
      have k34437 : ((-2) : Int32).toInt = (-2) := rfl
      have b34439 := Int32.le_toInt (0 : Int32)
      have b34440 := Int32.toInt_lt (0 : Int32)
      have n34438a : 161 - (0 : Int32).toInt < (FU : Int) := by have := FU_eq; omega
      have n34438b : 0 < FU := by have := FU_eq; omega
      exact lp34309 FU 0 (-2) (-2) (-2) I33578 A33578 L33578 Md.rf Md.rf hV33578 rfl (by omega) (by omega) (by omega) (by omega) (by omega) (by omega) n34438a n34438b hF
noncomputable def bM12_odd_35 (A : Nat → Nat → Int32) (z2 : Int32) (z1 : Int32) : (Int32 → Int32 → Int32 → (Nat → Int32) → (Nat → Nat → Int32) → (Nat → Nat → Int64) → (Int32 × (Nat → Int32) × (Nat → Nat → Int32) × (Nat → Nat → Int64))) → Int32 → Int32 → Int32 → (Nat → Int32) → (Nat → Nat → Int32) → (Nat → Nat → Int64) → (Int32 × (Nat → Int32) × (Nat → Nat → Int32) × (Nat → Nat → Int64)) := fun kk34590 x34463 x34464 x34465 I34469 A34469 L34469 => if (A 17 0).toInt ≤ x34463.toInt then if z2.toInt ≠ 0 then (x34464, I34469, A34469, L34469) else (x34465, I34469, A34469, L34469) else if fM12_isWindow I34469 A34469 L34469 x34463 z1 = 0 then f_lt (x34463 + Int32.ofInt 1) fun y34604 => kk34590 y34604 x34464 x34465 I34469 A34469 L34469 else f_bdM (fM12_nearOf I34469 A34469 L34469 x34463 z1) fun y34606 I34609 A34609 L34609 => if y34606.toInt < 0 then f_lt (x34463 + Int32.ofInt 1) fun y34611 => kk34590 y34611 x34464 x34465 I34609 A34609 L34609 else if x34464.toInt < (I34609 25).toInt then f_lt (x34463 + Int32.ofInt 1) fun y34616 => kk34590 y34616 (I34609 25) x34463 I34609 A34609 L34609 else f_lt (x34463 + Int32.ofInt 1) fun y34617 => kk34590 y34617 x34464 x34465 I34609 A34609 L34609
noncomputable def fM12_odd (I : Nat → Int32) (A : Nat → Nat → Int32) (L : Nat → Nat → Int64) (z1 : Int32) (z2 : Int32) : Int32 × (Nat → Int32) × (Nat → Nat → Int32) × (Nat → Nat → Int64) := if fM12_in I A L z1 2 16 = 0 then ((-1), I, A, L) else if fM12_in I A L z2 0 1 = 0 then ((-1), I, A, L) else f_bdM (fM12_copies I A L) fun _ I34458 A34458 L34458 => itr_iiiIAL dfM (bM12_odd_35 A z2 z1) FU 0 (-2) (-2) I34458 A34458 L34458
def wo_j202_X12_odd : List Cond := [Cond.methodLink RX12 244 yX12_in, Cond.static yX12_in, Cond.initialized RX12, Cond.methodLink RX12 323 yX12_copies, Cond.instanceMethod yX12_copies, Cond.selects RX12 yX12_copies yX12_copies, Cond.fieldLink RX12 70 "WarpDeskModel" "now" "[I", Cond.methodLink RX12 257 yX12_isWindow, Cond.instanceMethod yX12_isWindow, Cond.selects RX12 yX12_isWindow yX12_isWindow, Cond.methodLink RX12 388 yX12_nearOf, Cond.instanceMethod yX12_nearOf, Cond.selects RX12 yX12_nearOf yX12_nearOf, Cond.fieldLink RX12 381 "WarpDeskModel" "nearFar" "I"]
def wz_j202_X12_odd : List Cond := .code yX12_odd cX12_odd 6 (some .int) :: (wo_j202_X12_odd ++ (wsX120 ++ (wz_j145_X12_in ++ (wz_j151_X12_copies ++ (wz_j160_X12_isWindow ++ (wz_j199_X12_nearOf ++ ([] : List Cond)))))))
theorem zg_j202_X12_odd : ∀ w ∈ wz_j202_X12_odd, goodWord w = true := zg_cons rfl (zg_app (by decide +kernel) (zg_app zgU_wsX120 (zg_app zg_j145_X12_in (zg_app zg_j151_X12_copies (zg_app zg_j160_X12_isWindow (zg_app zg_j199_X12_nearOf zg_nil))))))
theorem zi_j202_X12_odd : ∀ w ∈ wz_j202_X12_odd, w ∈ lw_tbl := zi_cons zw_1934 (zi_app (zi_cons zw_1656 (zi_cons zw_1657 (zi_cons zw_115 (zi_cons zw_1679 (zi_cons zw_1681 (zi_cons zw_70 (zi_cons zw_1413 (zi_cons zw_1714 (zi_cons zw_1716 (zi_cons zw_72 (zi_cons zw_1919 (zi_cons zw_1921 (zi_cons zw_99 (zi_cons zw_1430 zi_nil)))))))))))))) (zi_app inX12 (zi_app zi_j145_X12_in (zi_app zi_j151_X12_copies (zi_app zi_j160_X12_isWindow (zi_app zi_j199_X12_nearOf zi_nil))))))
set_option maxHeartbeats 4000000 in
set_option maxRecDepth 100000 in
theorem j202_X12_odd (l : Launch) (D : va_G) (zt : Nat × Nat × Nat × (Nat → Nat) × (Nat → Nat)) (r : Nat → Nat) (g : Nat → ClassId) (I : Nat → Int32) (A : Nat → Nat → Int32) (L : Nat → Nat → Int64) (z1 : Int32) (z2 : Int32) (hIv : IvM I A) : GM l D zt (tyM g) yX12_odd wz_j202_X12_odd ({ frames := 6, cells := 0, slots := 0, locals := 137 } : Room) [.ref (r 0), .int z1, .int z2] (wM r g I A L) (fun v _ w' => ∃ (I' : Nat → Int32) (A' : Nat → Nat → Int32) (L' : Nat → Nat → Int64), Md [18, 19, 20, 25] I I' ∧ Md [18, 19, 20, 21] A A' ∧ IvM I' A' ∧ ∃ y0 : Int32, (L' = L) ∧ ((-2) ≤ y0.toInt) ∧ FE (fM12_odd I A L z1 z2) (y0, I', A', L') ∧ v = some (.int y0) ∧ w' = wM r g I' A' L') 0 0 := by
  refine GM.of (cc := cX12_odd) (maxL := 6) (ret := (some .int)) (own := RX12) (lv := [(0, .ref (r 0)), (1, .int z1), (2, .int z2)]) (by decide) rfl rfl (Nat.le_of_ble_eq_true rfl) rfl (fun κ sz hk hR hN => ?_)
  have hin12 : ∀ w ∈ u_ws RX12 TX12 55, w ∈ wz_j202_X12_odd := fun w h => (List.mem_cons_of_mem _ (List.mem_append_right _ (List.mem_append_left _ h)))
  have hF : FE (fM12_odd I A L z1 z2) (fM12_odd I A L z1 z2) := FE.rf
  refine g_iload_n hk dX12_odd_0 rfl ?_
  refine g_iconst (v := 2) hk dX12_odd_1 (by decide) ?_
  refine g_bipush (v := 16) hk dX12_odd_2 (by decide) ?_
  have k34441 : (2 : Int32).toInt = 2 := rfl
  have k34442 : (16 : Int32).toInt = 16 := rfl
  refine g_callS (n := 3) hk (j145_X12_in l D zt r g I A L z1 2 16 hIv) (SP.same _) (fun _ h => h) (gi_S (List.mem_cons_of_mem _ (List.mem_append_left _ (List.mem_of_getElem? (i := 0) rfl))) (List.mem_cons_of_mem _ (List.mem_append_left _ (List.mem_of_getElem? (i := 1) rfl))) (List.mem_cons_of_mem _ (List.mem_append_left _ (List.mem_of_getElem? (i := 2) rfl))) (gi_sub (fun w h => (List.mem_cons_of_mem _ (List.mem_append_right _ (List.mem_append_right _ (List.mem_append_left _ h))))) zg_j145_X12_in)) rfl rfl rfl (by decide +kernel) ⟨Nat.le_of_ble_eq_true rfl, Nat.le_of_ble_eq_true rfl⟩ rfl rfl (Nat.le_of_ble_eq_true rfl) ⟨Nat.le_of_ble_eq_true rfl, Nat.le_of_ble_eq_true rfl⟩ dX12_odd_4 (fun v ty' w' hp hk' => ?_)
  rcases hp with ⟨c34443, hC, rfl, rfl⟩ | ⟨c34445, c34446, hC, rfl, rfl⟩
  · skip
    replace hF := FE.pos hF hC
    have b34448l := Int32.le_toInt z1
    have b34448h := Int32.toInt_lt z1
    show GW κ 6 0 0 (wM r g I A L) 7 [(0, .ref (r 0)), (1, .int z1), (2, .int z2)] [.int 0]
    refine g_if_eq (tgt := 19) (a := 0) hk dX12_odd_7 (by decide) rfl (fun _ => ?_) (fun z9 => absurd (show (0 : Int) = (0 : Int) from by decide) z9)
    refine g_iconst (v := (-1)) hk dX12_odd_19 (by decide) ?_
    exact g_iret hk hR rfl ⟨I, A, L, (show Md [18, 19, 20, 25] I I from Md.rf), (show Md [18, 19, 20, 21] A A from Md.rf), hIv, (-1), (show L = L from rfl), (by decide), hF, rfl, rfl⟩ dX12_odd_20
  · skip
    replace hF := FE.neg hF (fe_ne hC (by decide))
    show GW κ 6 0 0 (wM r g I A L) 7 [(0, .ref (r 0)), (1, .int z1), (2, .int z2)] [.int 1]
    refine g_if_eq (tgt := 19) (a := 1) hk dX12_odd_7 (by decide) rfl (fun z9 => absurd z9 (show ¬ ((1 : Int) = (0 : Int)) from by decide)) (fun _ => ?_)
    refine g_iload_n hk dX12_odd_10 rfl ?_
    refine g_iconst (v := 0) hk dX12_odd_11 (by decide) ?_
    refine g_iconst (v := 1) hk dX12_odd_12 (by decide) ?_
    have k34449 : (0 : Int32).toInt = 0 := rfl
    have k34450 : (1 : Int32).toInt = 1 := rfl
    refine g_callS (n := 3) hk (j145_X12_in l D zt r g I A L z2 0 1 hIv) (SP.same _) (fun _ h => h) (gi_S (List.mem_cons_of_mem _ (List.mem_append_left _ (List.mem_of_getElem? (i := 0) rfl))) (List.mem_cons_of_mem _ (List.mem_append_left _ (List.mem_of_getElem? (i := 1) rfl))) (List.mem_cons_of_mem _ (List.mem_append_left _ (List.mem_of_getElem? (i := 2) rfl))) (gi_sub (fun w h => (List.mem_cons_of_mem _ (List.mem_append_right _ (List.mem_append_right _ (List.mem_append_left _ h))))) zg_j145_X12_in)) rfl rfl rfl (by decide +kernel) ⟨Nat.le_of_ble_eq_true rfl, Nat.le_of_ble_eq_true rfl⟩ rfl rfl (Nat.le_of_ble_eq_true rfl) ⟨Nat.le_of_ble_eq_true rfl, Nat.le_of_ble_eq_true rfl⟩ dX12_odd_13 (fun v ty' w' hp hk' => ?_)
    rcases hp with ⟨c34451, hC, rfl, rfl⟩ | ⟨c34453, c34454, hC, rfl, rfl⟩
    · skip
      replace hF := FE.pos hF hC
      have b34456l := Int32.le_toInt z2
      have b34456h := Int32.toInt_lt z2
      show GW κ 6 0 0 (wM r g I A L) 16 [(0, .ref (r 0)), (1, .int z1), (2, .int z2)] [.int 0]
      refine g_if_ne (tgt := 21) (a := 0) hk dX12_odd_16 (by decide) rfl (fun z9 => absurd z9 (show ¬ ((0 : Int) ≠ (0 : Int)) from by decide)) (fun _ => ?_)
      refine g_iconst (v := (-1)) hk dX12_odd_19 (by decide) ?_
      exact g_iret hk hR rfl ⟨I, A, L, (show Md [18, 19, 20, 25] I I from Md.rf), (show Md [18, 19, 20, 21] A A from Md.rf), hIv, (-1), (show L = L from rfl), (by decide), hF, rfl, rfl⟩ dX12_odd_20
    · skip
      replace hF := FE.neg hF (fe_ne hC (by decide))
      show GW κ 6 0 0 (wM r g I A L) 16 [(0, .ref (r 0)), (1, .int z1), (2, .int z2)] [.int 1]
      refine g_if_ne (tgt := 21) (a := 1) hk dX12_odd_16 (by decide) rfl (fun _ => ?_) (fun z9 => absurd (show (1 : Int) ≠ (0 : Int) from by decide) z9)
      refine g_aload_n hk dX12_odd_21 rfl ?_
      refine g_callV (n := 0) hk (j151_X12_copies l D zt r g I A L  hIv) (SP.same _) (fun _ h => h) (gi_V (List.mem_cons_of_mem _ (List.mem_append_left _ (List.mem_of_getElem? (i := 3) rfl))) (List.mem_cons_of_mem _ (List.mem_append_left _ (List.mem_of_getElem? (i := 4) rfl))) (List.mem_cons_of_mem _ (List.mem_append_left _ (List.mem_of_getElem? (i := 5) rfl))) (List.mem_cons_of_mem _ (List.mem_append_left _ (List.mem_of_getElem? (i := 2) rfl))) (gi_sub (fun w h => (List.mem_cons_of_mem _ (List.mem_append_right _ (List.mem_append_right _ (List.mem_append_right _ (List.mem_append_left _ h)))))) zg_j151_X12_copies)) rfl rfl rfl (by decide +kernel) ⟨Nat.le_of_ble_eq_true rfl, Nat.le_of_ble_eq_true rfl⟩ 0 rfl rfl rfl rfl (Nat.le_of_ble_eq_true rfl) ⟨Nat.le_of_ble_eq_true rfl, Nat.le_of_ble_eq_true rfl⟩ dX12_odd_22 (fun v ty' w' hp hk' => ?_)
      obtain ⟨I34458, A34458, L34458, hI34458, hA34458, hV34458, r34459, r34460, hL34458, hC, rfl, rfl⟩ := hp
      replace hF := FE.bdM hF hC
      have f34461 := IvM_s17_0 hIv
      have f34462 := IvM_s17_164 hIv
      show GW κ 6 0 0 (wM r g I34458 A34458 L34458) 25 [(0, .ref (r 0)), (1, .int z1), (2, .int z2)] []
      refine g_bipush (v := (-2)) hk dX12_odd_25 (by decide) ?_
      refine g_istore_n (lv' := [(3, .int (-2)), (0, .ref (r 0)), (1, .int z1), (2, .int z2)]) hk dX12_odd_27 (by decide) rfl ?_
      refine g_bipush (v := (-2)) hk dX12_odd_28 (by decide) ?_
      refine g_istore (lv' := [(4, .int (-2)), (3, .int (-2)), (0, .ref (r 0)), (1, .int z1), (2, .int z2)]) hk dX12_odd_30 (by decide) rfl ?_
      refine g_iconst (v := 0) hk dX12_odd_32 (by decide) ?_
      refine g_istore (lv' := [(5, .int 0), (4, .int (-2)), (3, .int (-2)), (0, .ref (r 0)), (1, .int z1), (2, .int z2)]) hk dX12_odd_33 (by decide) rfl ?_
      have lp34587 : ∀ (n34588 : Nat) (x34463 : Int32) (x34464 : Int32) (x34465 : Int32) (I34469 : Nat → Int32) (A34469 : Nat → Nat → Int32) (L34469 : Nat → Nat → Int64), (Md [18, 19, 20, 25] I34458 I34469) → (Md [19, 20, 21] A34458 A34469) → (IvM I34469 A34469) → (L34469 = L34458) → (0 ≤ x34463.toInt) → (x34463.toInt ≤ 160) → ((-2) ≤ x34464.toInt) → ((-2) ≤ x34465.toInt) → (x34465.toInt ≤ 159) → (161 - x34463.toInt < (n34588 : Int)) → (0 < n34588) → (FE (fM12_odd I A L z1 z2) (itr_iiiIAL dfM (bM12_odd_35 A z2 z1) n34588 x34463 x34464 x34465 I34469 A34469 L34469)) → GW κ 6 0 0 (wM r g I34469 A34469 L34469) 35 [(5, .int x34463), (4, .int x34464), (3, .int x34465), (0, .ref (r 0)), (1, .int z1), (2, .int z2)] [] := by
        intro n34588
        induction n34588 with
        | zero =>
          intro x34463 x34464 x34465 I34469 A34469 L34469 hI34469 hA34469 hV34469 hL34469 h34582 h34583 h34584 h34585 h34586 m34589 m34589z hF
          exact absurd m34589z (Nat.lt_irrefl 0)
        | succ n34588 ih34591 =>
          intro x34463 x34464 x34465 I34469 A34469 L34469 hI34469 hA34469 hV34469 hL34469 h34582 h34583 h34584 h34585 h34586 m34589 m34589z hF
          replace hF := FE.itr_iiiIAL hF
          refine g_iload hk dX12_odd_35 rfl ?_
          refine g_aload_n hk dX12_odd_37 rfl ?_
          refine gM_r0_35 hk hin12 (List.mem_cons_of_mem _ (List.mem_append_left _ (List.mem_of_getElem? (i := 6) rfl))) dX12_odd_38 ?_
          refine g_iconst (v := 0) hk dX12_odd_41 (by decide) ?_
          refine lM_17 (v := (A 17 0)) hk (vp_in_iff.mpr ⟨by decide, by decide⟩) ((congrFun (hA34469 17 rfl) _).trans (congrFun (hA34458 17 rfl) _)) dX12_odd_42 ?_
          refine g_icmp_ge (tgt := 93) (a := x34463.toInt) (b := (A 17 0).toInt) hk dX12_odd_43 (by decide) rfl rfl (fun c34592 => ?_) (fun c34592 => ?_)
          · skip
            replace hF := FE.pos hF c34592
            refine g_iload_n hk dX12_odd_93 rfl ?_
            refine g_if_ne (tgt := 101) (a := z2.toInt) hk dX12_odd_94 (by decide) rfl (fun c34593 => ?_) (fun c34593 => ?_)
            · skip
              replace hF := FE.pos hF c34593
              refine g_iload hk dX12_odd_101 rfl ?_
              have b34594l := Int32.le_toInt x34464
              have b34594h := Int32.toInt_lt x34464
              exact g_iret hk hR rfl ⟨I34469, A34469, L34469, (show Md [18, 19, 20, 25] I I34469 from (Md.tr (Md.tr Md.rf hI34458 rfl) hI34469 rfl)), (show Md [18, 19, 20, 21] A A34469 from (Md.tr (Md.tr Md.rf hA34458 rfl) hA34469 rfl)), hV34469, x34464, (show L34469 = L from (hL34469.trans hL34458)), (by omega), hF, rfl, rfl⟩ dX12_odd_103
            · skip
              replace hF := FE.neg hF c34593
              refine g_iload_n hk dX12_odd_97 rfl ?_
              refine g_goto (tgt := 103) hk dX12_odd_98 (by decide) ?_
              exact g_iret hk hR rfl ⟨I34469, A34469, L34469, (show Md [18, 19, 20, 25] I I34469 from (Md.tr (Md.tr Md.rf hI34458 rfl) hI34469 rfl)), (show Md [18, 19, 20, 21] A A34469 from (Md.tr (Md.tr Md.rf hA34458 rfl) hA34469 rfl)), hV34469, x34465, (show L34469 = L from (hL34469.trans hL34458)), (by omega), hF, rfl, rfl⟩ dX12_odd_103
          · skip
            replace hF := FE.neg hF c34592
            refine g_aload_n hk dX12_odd_46 rfl ?_
            refine g_iload hk dX12_odd_47 rfl ?_
            refine g_iload_n hk dX12_odd_49 rfl ?_
            refine g_callV (n := 2) hk (j160_X12_isWindow l D zt r g I34469 A34469 L34469 x34463 z1 hV34469) (SP.same _) (fun _ h => h) (gi_V (List.mem_cons_of_mem _ (List.mem_append_left _ (List.mem_of_getElem? (i := 7) rfl))) (List.mem_cons_of_mem _ (List.mem_append_left _ (List.mem_of_getElem? (i := 8) rfl))) (List.mem_cons_of_mem _ (List.mem_append_left _ (List.mem_of_getElem? (i := 9) rfl))) (List.mem_cons_of_mem _ (List.mem_append_left _ (List.mem_of_getElem? (i := 2) rfl))) (gi_sub (fun w h => (List.mem_cons_of_mem _ (List.mem_append_right _ (List.mem_append_right _ (List.mem_append_right _ (List.mem_append_right _ (List.mem_append_left _ h))))))) zg_j160_X12_isWindow)) rfl rfl rfl (by decide +kernel) ⟨Nat.le_of_ble_eq_true rfl, Nat.le_of_ble_eq_true rfl⟩ 0 rfl rfl rfl rfl (Nat.le_of_ble_eq_true rfl) ⟨Nat.le_of_ble_eq_true rfl, Nat.le_of_ble_eq_true rfl⟩ dX12_odd_50 (fun v ty' w' hp hk' => ?_)
            rcases hp with ⟨hC, rfl, rfl⟩ | ⟨c34596, c34597, c34598, c34599, c34600, c34601, c34602, hC, rfl, rfl⟩
            · skip
              replace hF := FE.pos hF hC
              show GW κ 6 0 0 (wM r g I34469 A34469 L34469) 53 [(5, .int x34463), (4, .int x34464), (3, .int x34465), (0, .ref (r 0)), (1, .int z1), (2, .int z2)] [.int 0]
              refine g_if_eq (tgt := 87) (a := 0) hk dX12_odd_53 (by decide) rfl (fun _ => ?_) (fun z9 => absurd (show (0 : Int) = (0 : Int) from by decide) z9)
              obtain ⟨y34604, ey34604⟩ : ∃ y : Int32, y = x34463 + Int32.ofInt 1 := ⟨_, rfl⟩
              replace hF := FE.lt hF ey34604
              have hy34604 : y34604.toInt = x34463.toInt + 1 := i32_add ey34604 rfl (by decide) (by omega) (by omega)
              refine g_iinc (v := y34604) (lv' := [(5, .int y34604), (4, .int x34464), (3, .int x34465), (0, .ref (r 0)), (1, .int z1), (2, .int z2)]) hk 0 dX12_odd_87 rfl ey34604.symm (by decide) rfl ?_
              refine g_goto (tgt := 35) hk dX12_odd_90 (by decide) ?_
              have b34605l := Int32.le_toInt x34464
              have b34605h := Int32.toInt_lt x34464
              exact g_lv (List.forall_mem_cons.mpr ⟨List.mem_of_getElem? (i := 0) rfl, (List.forall_mem_cons.mpr ⟨List.mem_of_getElem? (i := 1) rfl, (List.forall_mem_cons.mpr ⟨List.mem_of_getElem? (i := 2) rfl, (List.forall_mem_cons.mpr ⟨List.mem_of_getElem? (i := 3) rfl, (List.forall_mem_cons.mpr ⟨List.mem_of_getElem? (i := 4) rfl, (List.forall_mem_cons.mpr ⟨List.mem_of_getElem? (i := 5) rfl, (fun _ h => absurd h List.not_mem_nil)⟩)⟩)⟩)⟩)⟩)⟩) (ih34591 y34604 x34464 x34465 I34469 A34469 L34469 (show Md [18, 19, 20, 25] I34458 I34469 from Md.tr hI34469 (show Md [18, 19, 20, 25] I34469 I34469 from Md.rf) rfl) (show Md [19, 20, 21] A34458 A34469 from Md.tr hA34469 (show Md [19, 20, 21] A34469 A34469 from Md.rf) rfl) hV34469 (show L34469 = L34458 from hL34469) (by omega) (by omega) (by omega) (by omega) (by omega) (by omega) (by omega) hF)
            · skip
              replace hF := FE.neg hF (fe_ne hC (by decide))
              show GW κ 6 0 0 (wM r g I34469 A34469 L34469) 53 [(5, .int x34463), (4, .int x34464), (3, .int x34465), (0, .ref (r 0)), (1, .int z1), (2, .int z2)] [.int 1]
              refine g_if_eq (tgt := 87) (a := 1) hk dX12_odd_53 (by decide) rfl (fun z9 => absurd z9 (show ¬ ((1 : Int) = (0 : Int)) from by decide)) (fun _ => ?_)
              refine g_aload_n hk dX12_odd_56 rfl ?_
              refine g_iload hk dX12_odd_57 rfl ?_
              refine g_iload_n hk dX12_odd_59 rfl ?_
              refine g_callV (n := 2) hk (j199_X12_nearOf l D zt r g I34469 A34469 L34469 x34463 z1 hV34469 (by omega) (by omega) (by omega) (by omega) (by omega)) (SP.same _) (fun _ h => h) (gi_V (List.mem_cons_of_mem _ (List.mem_append_left _ (List.mem_of_getElem? (i := 10) rfl))) (List.mem_cons_of_mem _ (List.mem_append_left _ (List.mem_of_getElem? (i := 11) rfl))) (List.mem_cons_of_mem _ (List.mem_append_left _ (List.mem_of_getElem? (i := 12) rfl))) (List.mem_cons_of_mem _ (List.mem_append_left _ (List.mem_of_getElem? (i := 2) rfl))) (gi_sub (fun w h => (List.mem_cons_of_mem _ (List.mem_append_right _ (List.mem_append_right _ (List.mem_append_right _ (List.mem_append_right _ (List.mem_append_right _ (List.mem_append_left _ h)))))))) zg_j199_X12_nearOf)) rfl rfl rfl (by decide +kernel) ⟨Nat.le_of_ble_eq_true rfl, Nat.le_of_ble_eq_true rfl⟩ 0 rfl rfl rfl rfl (Nat.le_of_ble_eq_true rfl) ⟨Nat.le_of_ble_eq_true rfl, Nat.le_of_ble_eq_true rfl⟩ dX12_odd_60 (fun v ty' w' hp hk' => ?_)
              obtain ⟨I34609, A34609, L34609, hI34609, hA34609, hV34609, y34606, hL34609, c34607, c34608, hC, rfl, rfl⟩ := hp
              replace hF := FE.bdM hF hC
              show GW κ 6 0 0 (wM r g I34609 A34609 L34609) 63 [(5, .int x34463), (4, .int x34464), (3, .int x34465), (0, .ref (r 0)), (1, .int z1), (2, .int z2)] [.int y34606]
              refine g_if_lt (tgt := 87) (a := y34606.toInt) hk dX12_odd_63 (by decide) rfl (fun c34610 => ?_) (fun c34610 => ?_)
              · skip
                replace hF := FE.pos hF c34610
                obtain ⟨y34611, ey34611⟩ : ∃ y : Int32, y = x34463 + Int32.ofInt 1 := ⟨_, rfl⟩
                replace hF := FE.lt hF ey34611
                have hy34611 : y34611.toInt = x34463.toInt + 1 := i32_add ey34611 rfl (by decide) (by omega) (by omega)
                refine g_iinc (v := y34611) (lv' := [(5, .int y34611), (4, .int x34464), (3, .int x34465), (0, .ref (r 0)), (1, .int z1), (2, .int z2)]) hk 0 dX12_odd_87 rfl ey34611.symm (by decide) rfl ?_
                refine g_goto (tgt := 35) hk dX12_odd_90 (by decide) ?_
                have b34612l := Int32.le_toInt x34464
                have b34612h := Int32.toInt_lt x34464
                exact g_lv (List.forall_mem_cons.mpr ⟨List.mem_of_getElem? (i := 0) rfl, (List.forall_mem_cons.mpr ⟨List.mem_of_getElem? (i := 1) rfl, (List.forall_mem_cons.mpr ⟨List.mem_of_getElem? (i := 2) rfl, (List.forall_mem_cons.mpr ⟨List.mem_of_getElem? (i := 3) rfl, (List.forall_mem_cons.mpr ⟨List.mem_of_getElem? (i := 4) rfl, (List.forall_mem_cons.mpr ⟨List.mem_of_getElem? (i := 5) rfl, (fun _ h => absurd h List.not_mem_nil)⟩)⟩)⟩)⟩)⟩)⟩) (ih34591 y34611 x34464 x34465 I34609 A34609 L34609 (show Md [18, 19, 20, 25] I34458 I34609 from Md.tr hI34469 (show Md [18, 19, 20, 25] I34469 I34609 from (Md.tr Md.rf hI34609 rfl)) rfl) (show Md [19, 20, 21] A34458 A34609 from Md.tr hA34469 (show Md [19, 20, 21] A34469 A34609 from (Md.tr Md.rf hA34609 rfl)) rfl) hV34609 (show L34609 = L34458 from (hL34609.trans hL34469)) (by omega) (by omega) (by omega) (by omega) (by omega) (by omega) (by omega) hF)
              · skip
                replace hF := FE.neg hF c34610
                refine g_aload_n hk dX12_odd_66 rfl ?_
                refine gM_i25 (v := (I34609 25)) hk hin12 (List.mem_cons_of_mem _ (List.mem_append_left _ (List.mem_of_getElem? (i := 13) rfl))) dX12_odd_67 rfl ?_
                refine g_iload hk dX12_odd_70 rfl ?_
                have b34613l := Int32.le_toInt (I34609 25)
                have b34613h := Int32.toInt_lt (I34609 25)
                have b34614l := Int32.le_toInt x34464
                have b34614h := Int32.toInt_lt x34464
                refine g_icmp_gt (tgt := 78) (a := (I34609 25).toInt) (b := x34464.toInt) hk dX12_odd_72 (by decide) rfl rfl (fun c34615 => ?_) (fun c34615 => ?_)
                · skip
                  replace hF := FE.pos hF c34615
                  refine g_iload hk dX12_odd_78 rfl ?_
                  refine g_istore_n (lv' := [(3, .int x34463), (5, .int x34463), (4, .int x34464), (0, .ref (r 0)), (1, .int z1), (2, .int z2)]) hk dX12_odd_80 (by decide) rfl ?_
                  refine g_aload_n hk dX12_odd_81 rfl ?_
                  refine gM_i25 (v := (I34609 25)) hk hin12 (List.mem_cons_of_mem _ (List.mem_append_left _ (List.mem_of_getElem? (i := 13) rfl))) dX12_odd_82 rfl ?_
                  refine g_istore (lv' := [(4, .int (I34609 25)), (3, .int x34463), (5, .int x34463), (0, .ref (r 0)), (1, .int z1), (2, .int z2)]) hk dX12_odd_85 (by decide) rfl ?_
                  obtain ⟨y34616, ey34616⟩ : ∃ y : Int32, y = x34463 + Int32.ofInt 1 := ⟨_, rfl⟩
                  replace hF := FE.lt hF ey34616
                  have hy34616 : y34616.toInt = x34463.toInt + 1 := i32_add ey34616 rfl (by decide) (by omega) (by omega)
                  refine g_iinc (v := y34616) (lv' := [(5, .int y34616), (4, .int (I34609 25)), (3, .int x34463), (0, .ref (r 0)), (1, .int z1), (2, .int z2)]) hk 2 dX12_odd_87 rfl ey34616.symm (by decide) rfl ?_
                  refine g_goto (tgt := 35) hk dX12_odd_90 (by decide) ?_
                  exact g_lv (List.forall_mem_cons.mpr ⟨List.mem_of_getElem? (i := 0) rfl, (List.forall_mem_cons.mpr ⟨List.mem_of_getElem? (i := 1) rfl, (List.forall_mem_cons.mpr ⟨List.mem_of_getElem? (i := 2) rfl, (List.forall_mem_cons.mpr ⟨List.mem_of_getElem? (i := 3) rfl, (List.forall_mem_cons.mpr ⟨List.mem_of_getElem? (i := 4) rfl, (List.forall_mem_cons.mpr ⟨List.mem_of_getElem? (i := 5) rfl, (fun _ h => absurd h List.not_mem_nil)⟩)⟩)⟩)⟩)⟩)⟩) (ih34591 y34616 (I34609 25) x34463 I34609 A34609 L34609 (show Md [18, 19, 20, 25] I34458 I34609 from Md.tr hI34469 (show Md [18, 19, 20, 25] I34469 I34609 from (Md.tr Md.rf hI34609 rfl)) rfl) (show Md [19, 20, 21] A34458 A34609 from Md.tr hA34469 (show Md [19, 20, 21] A34469 A34609 from (Md.tr Md.rf hA34609 rfl)) rfl) hV34609 (show L34609 = L34458 from (hL34609.trans hL34469)) (by omega) (by omega) (by omega) (by omega) (by omega) (by omega) (by omega) hF)
                · skip
                  replace hF := FE.neg hF c34615
                  refine g_goto (tgt := 87) hk dX12_odd_75 (by decide) ?_
                  obtain ⟨y34617, ey34617⟩ : ∃ y : Int32, y = x34463 + Int32.ofInt 1 := ⟨_, rfl⟩
                  replace hF := FE.lt hF ey34617
                  have hy34617 : y34617.toInt = x34463.toInt + 1 := i32_add ey34617 rfl (by decide) (by omega) (by omega)
                  refine g_iinc (v := y34617) (lv' := [(5, .int y34617), (4, .int x34464), (3, .int x34465), (0, .ref (r 0)), (1, .int z1), (2, .int z2)]) hk 0 dX12_odd_87 rfl ey34617.symm (by decide) rfl ?_
                  refine g_goto (tgt := 35) hk dX12_odd_90 (by decide) ?_
                  exact g_lv (List.forall_mem_cons.mpr ⟨List.mem_of_getElem? (i := 0) rfl, (List.forall_mem_cons.mpr ⟨List.mem_of_getElem? (i := 1) rfl, (List.forall_mem_cons.mpr ⟨List.mem_of_getElem? (i := 2) rfl, (List.forall_mem_cons.mpr ⟨List.mem_of_getElem? (i := 3) rfl, (List.forall_mem_cons.mpr ⟨List.mem_of_getElem? (i := 4) rfl, (List.forall_mem_cons.mpr ⟨List.mem_of_getElem? (i := 5) rfl, (fun _ h => absurd h List.not_mem_nil)⟩)⟩)⟩)⟩)⟩)⟩) (ih34591 y34617 x34464 x34465 I34609 A34609 L34609 (show Md [18, 19, 20, 25] I34458 I34609 from Md.tr hI34469 (show Md [18, 19, 20, 25] I34469 I34609 from (Md.tr Md.rf hI34609 rfl)) rfl) (show Md [19, 20, 21] A34458 A34609 from Md.tr hA34469 (show Md [19, 20, 21] A34469 A34609 from (Md.tr Md.rf hA34609 rfl)) rfl) hV34609 (show L34609 = L34458 from (hL34609.trans hL34469)) (by omega) (by omega) (by omega) (by omega) (by omega) (by omega) (by omega) hF)
      have k34618 : ((-2) : Int32).toInt = (-2) := rfl
      have b34620 := Int32.le_toInt (0 : Int32)
      have b34621 := Int32.toInt_lt (0 : Int32)
      have n34619a : 161 - (0 : Int32).toInt < (FU : Int) := by have := FU_eq; omega
      have n34619b : 0 < FU := by have := FU_eq; omega
      exact lp34587 FU 0 (-2) (-2) I34458 A34458 L34458 Md.rf Md.rf hV34458 rfl (by omega) (by omega) (by omega) (by omega) (by omega) n34619a n34619b hF
noncomputable def bM12_cover_41 (I34632 : Nat → Int32) (x34633 : Int32) (kk35240 : Int32 → Int32 → (Int32 × (Nat → Int32) × (Nat → Nat → Int32) × (Nat → Nat → Int64))) (x34634 : Int32) (z2 : Int32) (A34632 : Nat → Nat → Int32) (A : Nat → Nat → Int32) (I : Nat → Int32) (z1 : Int32) (L34632 : Nat → Nat → Int64) : (Int32 → Int32 → (Int32 × (Nat → Int32) × (Nat → Nat → Int32) × (Nat → Nat → Int64))) → Int32 → Int32 → (Int32 × (Nat → Int32) × (Nat → Nat → Int32) × (Nat → Nat → Int64)) := fun kk35345 x35245 x35246 => if (I34632 24).toInt ≤ x35245.toInt then if x35246.toInt = 0 then f_lt (x34633 + Int32.ofInt 1) fun y35350 => kk35240 y35350 x34634 else f_lt (x34634 + Int32.ofInt 1) fun y35353 => f_lt (x34633 + Int32.ofInt 1) fun y35354 => kk35240 y35354 y35353 else if z2.toInt < (A34632 24 (A34632 26 x35245.toNatClampNeg).toNatClampNeg).toInt then f_lt (x35245 + Int32.ofInt 1) fun y35359 => kk35345 y35359 x35246 else f_lt (x34633 - (A34632 26 x35245.toNatClampNeg)) fun y35360 => f_lt ((A 11 (5 * (I 15) + z1).toNatClampNeg) - (1 : Int32)) fun y35361 => if fM12_in I34632 A34632 L34632 y35360 0 y35361 = 0 then f_lt (x35245 + Int32.ofInt 1) fun y35368 => kk35345 y35368 x35246 else f_lt (x35245 + Int32.ofInt 1) fun y35369 => kk35345 y35369 1
noncomputable def bM12_cover_24 (A : Nat → Nat → Int32) (I34632 : Nat → Int32) (A34632 : Nat → Nat → Int32) (L34632 : Nat → Nat → Int64) (z2 : Int32) (I : Nat → Int32) (z1 : Int32) : (Int32 → Int32 → (Int32 × (Nat → Int32) × (Nat → Nat → Int32) × (Nat → Nat → Int64))) → Int32 → Int32 → (Int32 × (Nat → Int32) × (Nat → Nat → Int32) × (Nat → Nat → Int64)) := fun kk35240 x34633 x34634 => if (A 17 0).toInt ≤ x34633.toInt then (x34634, I34632, A34632, L34632) else itr_ii dfM (bM12_cover_41 I34632 x34633 kk35240 x34634 z2 A34632 A I z1 L34632) FU 0 0
noncomputable def fM12_cover (I : Nat → Int32) (A : Nat → Nat → Int32) (L : Nat → Nat → Int64) (z1 : Int32) (z2 : Int32) : Int32 × (Nat → Int32) × (Nat → Nat → Int32) × (Nat → Nat → Int64) := if fM12_isQuery I A L z1 = 0 then ((-1), I, A, L) else if 0 ≤ z2.toInt then f_bdM (fM12_fillsMatches I A L z1) fun _ I34632 A34632 L34632 => itr_ii dfM (bM12_cover_24 A I34632 A34632 L34632 z2 I z1) FU 0 0 else ((-1), I, A, L)
def wo_j203_X12_cover : List Cond := [Cond.methodLink RX12 251 yX12_isQuery, Cond.instanceMethod yX12_isQuery, Cond.selects RX12 yX12_isQuery yX12_isQuery, Cond.initialized RX12, Cond.methodLink RX12 372 yX12_fillsMatches, Cond.instanceMethod yX12_fillsMatches, Cond.selects RX12 yX12_fillsMatches yX12_fillsMatches, Cond.fieldLink RX12 70 "WarpDeskModel" "now" "[I", Cond.fieldLink RX12 366 "WarpDeskModel" "matchMany" "I", Cond.fieldLink RX12 91 "WarpDeskModel" "farBy" "[I", Cond.fieldLink RX12 97 "WarpDeskModel" "matchAt" "[I", Cond.methodLink RX12 254 yX12_wideOf, Cond.instanceMethod yX12_wideOf, Cond.selects RX12 yX12_wideOf yX12_wideOf, Cond.methodLink RX12 244 yX12_in, Cond.static yX12_in]
def wz_j203_X12_cover : List Cond := .code yX12_cover cX12_cover 7 (some .int) :: (wo_j203_X12_cover ++ (wsX120 ++ (wz_j147_X12_isQuery ++ (wz_j191_X12_fillsMatches ++ (wz_j148_X12_wideOf ++ (wz_j145_X12_in ++ ([] : List Cond)))))))
theorem zg_j203_X12_cover : ∀ w ∈ wz_j203_X12_cover, goodWord w = true := zg_cons rfl (zg_app (by decide +kernel) (zg_app zgU_wsX120 (zg_app zg_j147_X12_isQuery (zg_app zg_j191_X12_fillsMatches (zg_app zg_j148_X12_wideOf (zg_app zg_j145_X12_in zg_nil))))))
theorem zi_j203_X12_cover : ∀ w ∈ wz_j203_X12_cover, w ∈ lw_tbl := zi_cons zw_1883 (zi_app (zi_cons zw_1663 (zi_cons zw_1665 (zi_cons zw_67 (zi_cons zw_115 (zi_cons zw_1868 (zi_cons zw_1870 (zi_cons zw_96 (zi_cons zw_1413 (zi_cons zw_1428 (zi_cons zw_1426 (zi_cons zw_1429 (zi_cons zw_1667 (zi_cons zw_1669 (zi_cons zw_68 (zi_cons zw_1656 (zi_cons zw_1657 zi_nil)))))))))))))))) (zi_app inX12 (zi_app zi_j147_X12_isQuery (zi_app zi_j191_X12_fillsMatches (zi_app zi_j148_X12_wideOf (zi_app zi_j145_X12_in zi_nil))))))
set_option maxHeartbeats 4000000 in
set_option maxRecDepth 100000 in
theorem j203_X12_cover (l : Launch) (D : va_G) (zt : Nat × Nat × Nat × (Nat → Nat) × (Nat → Nat)) (r : Nat → Nat) (g : Nat → ClassId) (I : Nat → Int32) (A : Nat → Nat → Int32) (L : Nat → Nat → Int64) (z1 : Int32) (z2 : Int32) (hIv : IvM I A) : GM l D zt (tyM g) yX12_cover wz_j203_X12_cover ({ frames := 8, cells := 0, slots := 0, locals := 179 } : Room) [.ref (r 0), .int z1, .int z2] (wM r g I A L) (fun v _ w' => ∃ (I' : Nat → Int32) (A' : Nat → Nat → Int32) (L' : Nat → Nat → Int64), Md [18, 19, 20, 24] I I' ∧ Md [18, 19, 20, 21, 24, 26] A A' ∧ IvM I' A' ∧ ∃ y0 : Int32, (L' = L) ∧ FE (fM12_cover I A L z1 z2) (y0, I', A', L') ∧ v = some (.int y0) ∧ w' = wM r g I' A' L') 0 0 := by
  refine GM.of (cc := cX12_cover) (maxL := 7) (ret := (some .int)) (own := RX12) (lv := [(0, .ref (r 0)), (1, .int z1), (2, .int z2)]) (by decide) rfl rfl (Nat.le_of_ble_eq_true rfl) rfl (fun κ sz hk hR hN => ?_)
  have hin12 : ∀ w ∈ u_ws RX12 TX12 55, w ∈ wz_j203_X12_cover := fun w h => (List.mem_cons_of_mem _ (List.mem_append_right _ (List.mem_append_left _ h)))
  have hF : FE (fM12_cover I A L z1 z2) (fM12_cover I A L z1 z2) := FE.rf
  refine g_aload_n hk dX12_cover_0 rfl ?_
  refine g_iload_n hk dX12_cover_1 rfl ?_
  refine g_callV (n := 1) hk (j147_X12_isQuery l D zt r g I A L z1 hIv) (SP.same _) (fun _ h => h) (gi_V (List.mem_cons_of_mem _ (List.mem_append_left _ (List.mem_of_getElem? (i := 0) rfl))) (List.mem_cons_of_mem _ (List.mem_append_left _ (List.mem_of_getElem? (i := 1) rfl))) (List.mem_cons_of_mem _ (List.mem_append_left _ (List.mem_of_getElem? (i := 2) rfl))) (List.mem_cons_of_mem _ (List.mem_append_left _ (List.mem_of_getElem? (i := 3) rfl))) (gi_sub (fun w h => (List.mem_cons_of_mem _ (List.mem_append_right _ (List.mem_append_right _ (List.mem_append_left _ h))))) zg_j147_X12_isQuery)) rfl rfl rfl (by decide +kernel) ⟨Nat.le_of_ble_eq_true rfl, Nat.le_of_ble_eq_true rfl⟩ 0 rfl rfl rfl rfl (Nat.le_of_ble_eq_true rfl) ⟨Nat.le_of_ble_eq_true rfl, Nat.le_of_ble_eq_true rfl⟩ dX12_cover_2 (fun v ty' w' hp hk' => ?_)
  rcases hp with ⟨hC, rfl, rfl⟩ | ⟨c34623, c34624, c34625, c34626, hC, rfl, rfl⟩
  · skip
    replace hF := FE.pos hF hC
    show GW κ 7 0 0 (wM r g I A L) 5 [(0, .ref (r 0)), (1, .int z1), (2, .int z2)] [.int 0]
    refine g_if_eq (tgt := 12) (a := 0) hk dX12_cover_5 (by decide) rfl (fun _ => ?_) (fun z9 => absurd (show (0 : Int) = (0 : Int) from by decide) z9)
    refine g_iconst (v := (-1)) hk dX12_cover_12 (by decide) ?_
    exact g_iret hk hR rfl ⟨I, A, L, (show Md [18, 19, 20, 24] I I from Md.rf), (show Md [18, 19, 20, 21, 24, 26] A A from Md.rf), hIv, (-1), (show L = L from rfl), hF, rfl, rfl⟩ dX12_cover_13
  · skip
    replace hF := FE.neg hF (fe_ne hC (by decide))
    have f34628 : 0 ≤ (A 11 (5 * (I 15) + z1).toNatClampNeg).toInt ∧ (A 11 (5 * (I 15) + z1).toNatClampNeg).toInt ≤ 16 := IvM_a11 hIv _
    show GW κ 7 0 0 (wM r g I A L) 5 [(0, .ref (r 0)), (1, .int z1), (2, .int z2)] [.int 1]
    refine g_if_eq (tgt := 12) (a := 1) hk dX12_cover_5 (by decide) rfl (fun z9 => absurd z9 (show ¬ ((1 : Int) = (0 : Int)) from by decide)) (fun _ => ?_)
    refine g_iload_n hk dX12_cover_8 rfl ?_
    have b34629l := Int32.le_toInt z2
    have b34629h := Int32.toInt_lt z2
    refine g_if_ge (tgt := 14) (a := z2.toInt) hk dX12_cover_9 (by decide) rfl (fun c34630 => ?_) (fun c34630 => ?_)
    · skip
      replace hF := FE.pos hF c34630
      refine g_aload_n hk dX12_cover_14 rfl ?_
      refine g_iload_n hk dX12_cover_15 rfl ?_
      refine g_callV (n := 1) hk (j191_X12_fillsMatches l D zt r g I A L z1 hIv (by omega) (by omega)) (SP.same _) (fun _ h => h) (gi_V (List.mem_cons_of_mem _ (List.mem_append_left _ (List.mem_of_getElem? (i := 4) rfl))) (List.mem_cons_of_mem _ (List.mem_append_left _ (List.mem_of_getElem? (i := 5) rfl))) (List.mem_cons_of_mem _ (List.mem_append_left _ (List.mem_of_getElem? (i := 6) rfl))) (List.mem_cons_of_mem _ (List.mem_append_left _ (List.mem_of_getElem? (i := 3) rfl))) (gi_sub (fun w h => (List.mem_cons_of_mem _ (List.mem_append_right _ (List.mem_append_right _ (List.mem_append_right _ (List.mem_append_left _ h)))))) zg_j191_X12_fillsMatches)) rfl rfl rfl (by decide +kernel) ⟨Nat.le_of_ble_eq_true rfl, Nat.le_of_ble_eq_true rfl⟩ 0 rfl rfl rfl rfl (Nat.le_of_ble_eq_true rfl) ⟨Nat.le_of_ble_eq_true rfl, Nat.le_of_ble_eq_true rfl⟩ dX12_cover_16 (fun v ty' w' hp hk' => ?_)
      obtain ⟨I34632, A34632, L34632, hI34632, hA34632, hV34632, hL34632, hC, rfl, rfl⟩ := hp
      replace hF := FE.bdM hF hC
      show GW κ 7 0 0 (wM r g I34632 A34632 L34632) 19 [(0, .ref (r 0)), (1, .int z1), (2, .int z2)] []
      refine g_iconst (v := 0) hk dX12_cover_19 (by decide) ?_
      refine g_istore_n (lv' := [(3, .int 0), (0, .ref (r 0)), (1, .int z1), (2, .int z2)]) hk dX12_cover_20 (by decide) rfl ?_
      refine g_iconst (v := 0) hk dX12_cover_21 (by decide) ?_
      refine g_istore (lv' := [(4, .int 0), (3, .int 0), (0, .ref (r 0)), (1, .int z1), (2, .int z2)]) hk dX12_cover_22 (by decide) rfl ?_
      have lp35237 : ∀ (n35238 : Nat) (x34633 : Int32) (x34634 : Int32), (0 ≤ x34633.toInt) → (x34633.toInt ≤ 160) → (161 - x34633.toInt < (n35238 : Int)) → (0 < n35238) → (FE (fM12_cover I A L z1 z2) (itr_ii dfM (bM12_cover_24 A I34632 A34632 L34632 z2 I z1) n35238 x34633 x34634)) → GW κ 7 0 0 (wM r g I34632 A34632 L34632) 24 [(4, .int x34633), (3, .int x34634), (0, .ref (r 0)), (1, .int z1), (2, .int z2)] [] := by
        intro n35238
        induction n35238 with
        | zero =>
          intro x34633 x34634 h35235 h35236 m35239 m35239z hF
          exact absurd m35239z (Nat.lt_irrefl 0)
        | succ n35238 ih35241 =>
          intro x34633 x34634 h35235 h35236 m35239 m35239z hF
          replace hF := FE.itr_ii hF
          refine g_iload hk dX12_cover_24 rfl ?_
          refine g_aload_n hk dX12_cover_26 rfl ?_
          refine gM_r0_35 hk hin12 (List.mem_cons_of_mem _ (List.mem_append_left _ (List.mem_of_getElem? (i := 7) rfl))) dX12_cover_27 ?_
          refine g_iconst (v := 0) hk dX12_cover_30 (by decide) ?_
          refine lM_17 (v := (A 17 0)) hk (vp_in_iff.mpr ⟨by decide, by decide⟩) (congrFun (hA34632 17 rfl) _) dX12_cover_31 ?_
          have f35242 := IvM_s17_0 hIv
          refine g_icmp_ge (tgt := 113) (a := x34633.toInt) (b := (A 17 0).toInt) hk dX12_cover_32 (by decide) rfl rfl (fun c35243 => ?_) (fun c35243 => ?_)
          · skip
            replace hF := FE.pos hF c35243
            refine g_iload_n hk dX12_cover_113 rfl ?_
            have b35244l := Int32.le_toInt x34634
            have b35244h := Int32.toInt_lt x34634
            exact g_iret hk hR rfl ⟨I34632, A34632, L34632, (show Md [18, 19, 20, 24] I I34632 from (Md.tr Md.rf hI34632 rfl)), (show Md [18, 19, 20, 21, 24, 26] A A34632 from (Md.tr Md.rf hA34632 rfl)), hV34632, x34634, (show L34632 = L from hL34632), hF, rfl, rfl⟩ dX12_cover_114
          · skip
            replace hF := FE.neg hF c35243
            refine g_iconst (v := 0) hk dX12_cover_35 (by decide) ?_
            refine g_istore (lv' := [(5, .int 0), (4, .int x34633), (3, .int x34634), (0, .ref (r 0)), (1, .int z1), (2, .int z2)]) hk dX12_cover_36 (by decide) rfl ?_
            refine g_iconst (v := 0) hk dX12_cover_38 (by decide) ?_
            refine g_istore (lv' := [(6, .int 0), (5, .int 0), (4, .int x34633), (3, .int x34634), (0, .ref (r 0)), (1, .int z1), (2, .int z2)]) hk dX12_cover_39 (by decide) rfl ?_
            have lp35342 : ∀ (n35343 : Nat) (x35245 : Int32) (x35246 : Int32), (0 ≤ x35245.toInt) → (x35245.toInt ≤ 160) → (0 ≤ x35246.toInt) → (x35246.toInt ≤ 1) → (161 - x35245.toInt < (n35343 : Int)) → (0 < n35343) → (FE (fM12_cover I A L z1 z2) (itr_ii dfM (bM12_cover_41 I34632 x34633 (itr_ii dfM (bM12_cover_24 A I34632 A34632 L34632 z2 I z1) n35238) x34634 z2 A34632 A I z1 L34632) n35343 x35245 x35246)) → GW κ 7 0 0 (wM r g I34632 A34632 L34632) 41 [(6, .int x35245), (5, .int x35246), (4, .int x34633), (3, .int x34634), (0, .ref (r 0)), (1, .int z1), (2, .int z2)] [] := by
              intro n35343
              induction n35343 with
              | zero =>
                intro x35245 x35246 h35338 h35339 h35340 h35341 m35344 m35344z hF
                exact absurd m35344z (Nat.lt_irrefl 0)
              | succ n35343 ih35346 =>
                intro x35245 x35246 h35338 h35339 h35340 h35341 m35344 m35344z hF
                replace hF := FE.itr_ii hF
                refine g_iload hk dX12_cover_41 rfl ?_
                refine g_aload_n hk dX12_cover_43 rfl ?_
                refine gM_i24 (v := (I34632 24)) hk hin12 (List.mem_cons_of_mem _ (List.mem_append_left _ (List.mem_of_getElem? (i := 8) rfl))) dX12_cover_44 rfl ?_
                have f35347 := IvM_f24 hV34632
                refine g_icmp_ge (tgt := 99) (a := x35245.toInt) (b := (I34632 24).toInt) hk dX12_cover_47 (by decide) rfl rfl (fun c35348 => ?_) (fun c35348 => ?_)
                · skip
                  replace hF := FE.pos hF c35348
                  refine g_iload hk dX12_cover_99 rfl ?_
                  refine g_if_eq (tgt := 107) (a := x35246.toInt) hk dX12_cover_101 (by decide) rfl (fun c35349 => ?_) (fun c35349 => ?_)
                  · skip
                    replace hF := FE.pos hF c35349
                    obtain ⟨y35350, ey35350⟩ : ∃ y : Int32, y = x34633 + Int32.ofInt 1 := ⟨_, rfl⟩
                    replace hF := FE.lt hF ey35350
                    have hy35350 : y35350.toInt = x34633.toInt + 1 := i32_add ey35350 rfl (by decide) (by omega) (by omega)
                    refine g_iinc (v := y35350) (lv' := [(4, .int y35350), (6, .int x35245), (5, .int x35246), (3, .int x34634), (0, .ref (r 0)), (1, .int z1), (2, .int z2)]) hk 2 dX12_cover_107 rfl ey35350.symm (by decide) rfl ?_
                    refine g_goto (tgt := 24) hk dX12_cover_110 (by decide) ?_
                    have b35351l := Int32.le_toInt x34634
                    have b35351h := Int32.toInt_lt x34634
                    exact g_lv (List.forall_mem_cons.mpr ⟨List.mem_of_getElem? (i := 0) rfl, (List.forall_mem_cons.mpr ⟨List.mem_of_getElem? (i := 3) rfl, (List.forall_mem_cons.mpr ⟨List.mem_of_getElem? (i := 4) rfl, (List.forall_mem_cons.mpr ⟨List.mem_of_getElem? (i := 5) rfl, (List.forall_mem_cons.mpr ⟨List.mem_of_getElem? (i := 6) rfl, (fun _ h => absurd h List.not_mem_nil)⟩)⟩)⟩)⟩)⟩) (ih35241 y35350 x34634 (by omega) (by omega) (by omega) (by omega) hF)
                  · skip
                    replace hF := FE.neg hF c35349
                    have b35352l := Int32.le_toInt x34634
                    have b35352h := Int32.toInt_lt x34634
                    obtain ⟨y35353, ey35353⟩ : ∃ y : Int32, y = x34634 + Int32.ofInt 1 := ⟨_, rfl⟩
                    replace hF := FE.lt hF ey35353
                    refine g_iinc (v := y35353) (lv' := [(3, .int y35353), (6, .int x35245), (5, .int x35246), (4, .int x34633), (0, .ref (r 0)), (1, .int z1), (2, .int z2)]) hk 3 dX12_cover_104 rfl ey35353.symm (by decide) rfl ?_
                    obtain ⟨y35354, ey35354⟩ : ∃ y : Int32, y = x34633 + Int32.ofInt 1 := ⟨_, rfl⟩
                    replace hF := FE.lt hF ey35354
                    have hy35354 : y35354.toInt = x34633.toInt + 1 := i32_add ey35354 rfl (by decide) (by omega) (by omega)
                    refine g_iinc (v := y35354) (lv' := [(4, .int y35354), (3, .int y35353), (6, .int x35245), (5, .int x35246), (0, .ref (r 0)), (1, .int z1), (2, .int z2)]) hk 3 dX12_cover_107 rfl ey35354.symm (by decide) rfl ?_
                    refine g_goto (tgt := 24) hk dX12_cover_110 (by decide) ?_
                    have b35355l := Int32.le_toInt y35353
                    have b35355h := Int32.toInt_lt y35353
                    exact g_lv (List.forall_mem_cons.mpr ⟨List.mem_of_getElem? (i := 0) rfl, (List.forall_mem_cons.mpr ⟨List.mem_of_getElem? (i := 1) rfl, (List.forall_mem_cons.mpr ⟨List.mem_of_getElem? (i := 4) rfl, (List.forall_mem_cons.mpr ⟨List.mem_of_getElem? (i := 5) rfl, (List.forall_mem_cons.mpr ⟨List.mem_of_getElem? (i := 6) rfl, (fun _ h => absurd h List.not_mem_nil)⟩)⟩)⟩)⟩)⟩) (ih35241 y35354 y35353 (by omega) (by omega) (by omega) (by omega) hF)
                · skip
                  replace hF := FE.neg hF c35348
                  refine g_aload_n hk dX12_cover_50 rfl ?_
                  refine gM_r0_48 hk hin12 (List.mem_cons_of_mem _ (List.mem_append_left _ (List.mem_of_getElem? (i := 9) rfl))) dX12_cover_51 ?_
                  refine g_aload_n hk dX12_cover_54 rfl ?_
                  refine gM_r0_51 hk hin12 (List.mem_cons_of_mem _ (List.mem_append_left _ (List.mem_of_getElem? (i := 10) rfl))) dX12_cover_55 ?_
                  refine g_iload hk dX12_cover_58 rfl ?_
                  refine lM_26 (v := (A34632 26 x35245.toNatClampNeg)) hk (vp_in_iff.mpr ⟨by omega, by omega⟩) rfl dX12_cover_60 ?_
                  have f35356 := IvM_a26 hV34632 (x35245.toNatClampNeg)
                  refine lM_24 (v := (A34632 24 (A34632 26 x35245.toNatClampNeg).toNatClampNeg)) hk (vp_in_iff.mpr ⟨by omega, by omega⟩) rfl dX12_cover_61 ?_
                  refine g_iload_n hk dX12_cover_62 rfl ?_
                  have b35357l := Int32.le_toInt (A34632 24 (A34632 26 x35245.toNatClampNeg).toNatClampNeg)
                  have b35357h := Int32.toInt_lt (A34632 24 (A34632 26 x35245.toNatClampNeg).toNatClampNeg)
                  refine g_icmp_gt (tgt := 93) (a := (A34632 24 (A34632 26 x35245.toNatClampNeg).toNatClampNeg).toInt) (b := z2.toInt) hk dX12_cover_63 (by decide) rfl rfl (fun c35358 => ?_) (fun c35358 => ?_)
                  · skip
                    replace hF := FE.pos hF c35358
                    obtain ⟨y35359, ey35359⟩ : ∃ y : Int32, y = x35245 + Int32.ofInt 1 := ⟨_, rfl⟩
                    replace hF := FE.lt hF ey35359
                    have hy35359 : y35359.toInt = x35245.toInt + 1 := i32_add ey35359 rfl (by decide) (by omega) (by omega)
                    refine g_iinc (v := y35359) (lv' := [(6, .int y35359), (5, .int x35246), (4, .int x34633), (3, .int x34634), (0, .ref (r 0)), (1, .int z1), (2, .int z2)]) hk 0 dX12_cover_93 rfl ey35359.symm (by decide) rfl ?_
                    refine g_goto (tgt := 41) hk dX12_cover_96 (by decide) ?_
                    exact g_lv (List.forall_mem_cons.mpr ⟨List.mem_of_getElem? (i := 0) rfl, (List.forall_mem_cons.mpr ⟨List.mem_of_getElem? (i := 1) rfl, (List.forall_mem_cons.mpr ⟨List.mem_of_getElem? (i := 2) rfl, (List.forall_mem_cons.mpr ⟨List.mem_of_getElem? (i := 3) rfl, (List.forall_mem_cons.mpr ⟨List.mem_of_getElem? (i := 4) rfl, (List.forall_mem_cons.mpr ⟨List.mem_of_getElem? (i := 5) rfl, (List.forall_mem_cons.mpr ⟨List.mem_of_getElem? (i := 6) rfl, (fun _ h => absurd h List.not_mem_nil)⟩)⟩)⟩)⟩)⟩)⟩)⟩) (ih35346 y35359 x35246 (by omega) (by omega) (by omega) (by omega) (by omega) (by omega) hF)
                  · skip
                    replace hF := FE.neg hF c35358
                    refine g_iload hk dX12_cover_66 rfl ?_
                    refine g_aload_n hk dX12_cover_68 rfl ?_
                    refine gM_r0_51 hk hin12 (List.mem_cons_of_mem _ (List.mem_append_left _ (List.mem_of_getElem? (i := 10) rfl))) dX12_cover_69 ?_
                    refine g_iload hk dX12_cover_72 rfl ?_
                    refine lM_26 (v := (A34632 26 x35245.toNatClampNeg)) hk (vp_in_iff.mpr ⟨by omega, by omega⟩) rfl dX12_cover_74 ?_
                    refine g_isub hk dX12_cover_75 ?_
                    refine g_topi (fun y35360 ey35360 => ?_)
                    replace hF := FE.lt hF ey35360
                    have hy35360 : y35360.toInt = x34633.toInt - (A34632 26 x35245.toNatClampNeg).toInt := i32_sub ey35360 rfl rfl (by omega) (by omega)
                    refine g_iconst (v := 0) hk dX12_cover_76 (by decide) ?_
                    refine g_aload_n hk dX12_cover_77 rfl ?_
                    refine g_iload_n hk dX12_cover_78 rfl ?_
                    refine g_callV (n := 1) hk (j148_X12_wideOf l D zt r g I34632 A34632 L34632 z1 hV34632 (by omega) (by omega)) (SP.same _) (fun _ h => h) (gi_V (List.mem_cons_of_mem _ (List.mem_append_left _ (List.mem_of_getElem? (i := 11) rfl))) (List.mem_cons_of_mem _ (List.mem_append_left _ (List.mem_of_getElem? (i := 12) rfl))) (List.mem_cons_of_mem _ (List.mem_append_left _ (List.mem_of_getElem? (i := 13) rfl))) (List.mem_cons_of_mem _ (List.mem_append_left _ (List.mem_of_getElem? (i := 3) rfl))) (gi_sub (fun w h => (List.mem_cons_of_mem _ (List.mem_append_right _ (List.mem_append_right _ (List.mem_append_right _ (List.mem_append_right _ (List.mem_append_left _ h))))))) zg_j148_X12_wideOf)) rfl rfl rfl (by decide +kernel) ⟨Nat.le_of_ble_eq_true rfl, Nat.le_of_ble_eq_true rfl⟩ 0 rfl rfl rfl rfl (Nat.le_of_ble_eq_true rfl) ⟨Nat.le_of_ble_eq_true rfl, Nat.le_of_ble_eq_true rfl⟩ dX12_cover_79 (fun v ty' w' hp hk' => ?_)
                    obtain ⟨rfl, rfl⟩ := hp
                    show GW κ 7 0 0 (wM r g I34632 A34632 L34632) 82 [(6, .int x35245), (5, .int x35246), (4, .int x34633), (3, .int x34634), (0, .ref (r 0)), (1, .int z1), (2, .int z2)] [.int (A34632 11 (5 * (I34632 15) + z1).toNatClampNeg), .int 0, .int y35360]
                    refine g_norm (v := (A 11 (5 * (I 15) + z1).toNatClampNeg)) (by rw [show I34632 15 = (I 15) from (hI34632 15 rfl)]; exact (congrFun (hA34632 11 rfl) _)) ?_
                    refine g_iconst (v := 1) hk dX12_cover_82 (by decide) ?_
                    refine g_isub hk dX12_cover_83 ?_
                    refine g_topi (fun y35361 ey35361 => ?_)
                    replace hF := FE.lt hF ey35361
                    have hy35361 : y35361.toInt = (A 11 (5 * (I 15) + z1).toNatClampNeg).toInt - 1 := i32_sub ey35361 rfl rfl (by omega) (by omega)
                    have k35362 : (0 : Int32).toInt = 0 := rfl
                    refine g_callS (n := 3) hk (j145_X12_in l D zt r g I34632 A34632 L34632 y35360 0 y35361 hV34632) (SP.same _) (fun _ h => h) (gi_S (List.mem_cons_of_mem _ (List.mem_append_left _ (List.mem_of_getElem? (i := 14) rfl))) (List.mem_cons_of_mem _ (List.mem_append_left _ (List.mem_of_getElem? (i := 15) rfl))) (List.mem_cons_of_mem _ (List.mem_append_left _ (List.mem_of_getElem? (i := 3) rfl))) (gi_sub (fun w h => (List.mem_cons_of_mem _ (List.mem_append_right _ (List.mem_append_right _ (List.mem_append_right _ (List.mem_append_right _ (List.mem_append_right _ (List.mem_append_left _ h)))))))) zg_j145_X12_in)) rfl rfl rfl (by decide +kernel) ⟨Nat.le_of_ble_eq_true rfl, Nat.le_of_ble_eq_true rfl⟩ rfl rfl (Nat.le_of_ble_eq_true rfl) ⟨Nat.le_of_ble_eq_true rfl, Nat.le_of_ble_eq_true rfl⟩ dX12_cover_84 (fun v ty' w' hp hk' => ?_)
                    rcases hp with ⟨c35363, hC, rfl, rfl⟩ | ⟨c35365, c35366, hC, rfl, rfl⟩
                    · skip
                      replace hF := FE.pos hF hC
                      show GW κ 7 0 0 (wM r g I34632 A34632 L34632) 87 [(6, .int x35245), (5, .int x35246), (4, .int x34633), (3, .int x34634), (0, .ref (r 0)), (1, .int z1), (2, .int z2)] [.int 0]
                      refine g_if_eq (tgt := 93) (a := 0) hk dX12_cover_87 (by decide) rfl (fun _ => ?_) (fun z9 => absurd (show (0 : Int) = (0 : Int) from by decide) z9)
                      obtain ⟨y35368, ey35368⟩ : ∃ y : Int32, y = x35245 + Int32.ofInt 1 := ⟨_, rfl⟩
                      replace hF := FE.lt hF ey35368
                      have hy35368 : y35368.toInt = x35245.toInt + 1 := i32_add ey35368 rfl (by decide) (by omega) (by omega)
                      refine g_iinc (v := y35368) (lv' := [(6, .int y35368), (5, .int x35246), (4, .int x34633), (3, .int x34634), (0, .ref (r 0)), (1, .int z1), (2, .int z2)]) hk 0 dX12_cover_93 rfl ey35368.symm (by decide) rfl ?_
                      refine g_goto (tgt := 41) hk dX12_cover_96 (by decide) ?_
                      exact g_lv (List.forall_mem_cons.mpr ⟨List.mem_of_getElem? (i := 0) rfl, (List.forall_mem_cons.mpr ⟨List.mem_of_getElem? (i := 1) rfl, (List.forall_mem_cons.mpr ⟨List.mem_of_getElem? (i := 2) rfl, (List.forall_mem_cons.mpr ⟨List.mem_of_getElem? (i := 3) rfl, (List.forall_mem_cons.mpr ⟨List.mem_of_getElem? (i := 4) rfl, (List.forall_mem_cons.mpr ⟨List.mem_of_getElem? (i := 5) rfl, (List.forall_mem_cons.mpr ⟨List.mem_of_getElem? (i := 6) rfl, (fun _ h => absurd h List.not_mem_nil)⟩)⟩)⟩)⟩)⟩)⟩)⟩) (ih35346 y35368 x35246 (by omega) (by omega) (by omega) (by omega) (by omega) (by omega) hF)
                    · skip
                      replace hF := FE.neg hF (fe_ne hC (by decide))
                      show GW κ 7 0 0 (wM r g I34632 A34632 L34632) 87 [(6, .int x35245), (5, .int x35246), (4, .int x34633), (3, .int x34634), (0, .ref (r 0)), (1, .int z1), (2, .int z2)] [.int 1]
                      refine g_if_eq (tgt := 93) (a := 1) hk dX12_cover_87 (by decide) rfl (fun z9 => absurd z9 (show ¬ ((1 : Int) = (0 : Int)) from by decide)) (fun _ => ?_)
                      refine g_iconst (v := 1) hk dX12_cover_90 (by decide) ?_
                      refine g_istore (lv' := [(5, .int 1), (6, .int x35245), (4, .int x34633), (3, .int x34634), (0, .ref (r 0)), (1, .int z1), (2, .int z2)]) hk dX12_cover_91 (by decide) rfl ?_
                      obtain ⟨y35369, ey35369⟩ : ∃ y : Int32, y = x35245 + Int32.ofInt 1 := ⟨_, rfl⟩
                      replace hF := FE.lt hF ey35369
                      have hy35369 : y35369.toInt = x35245.toInt + 1 := i32_add ey35369 rfl (by decide) (by omega) (by omega)
                      refine g_iinc (v := y35369) (lv' := [(6, .int y35369), (5, .int 1), (4, .int x34633), (3, .int x34634), (0, .ref (r 0)), (1, .int z1), (2, .int z2)]) hk 1 dX12_cover_93 rfl ey35369.symm (by decide) rfl ?_
                      refine g_goto (tgt := 41) hk dX12_cover_96 (by decide) ?_
                      have k35370 : (1 : Int32).toInt = 1 := rfl
                      exact g_lv (List.forall_mem_cons.mpr ⟨List.mem_of_getElem? (i := 0) rfl, (List.forall_mem_cons.mpr ⟨List.mem_of_getElem? (i := 1) rfl, (List.forall_mem_cons.mpr ⟨List.mem_of_getElem? (i := 2) rfl, (List.forall_mem_cons.mpr ⟨List.mem_of_getElem? (i := 3) rfl, (List.forall_mem_cons.mpr ⟨List.mem_of_getElem? (i := 4) rfl, (List.forall_mem_cons.mpr ⟨List.mem_of_getElem? (i := 5) rfl, (List.forall_mem_cons.mpr ⟨List.mem_of_getElem? (i := 6) rfl, (fun _ h => absurd h List.not_mem_nil)⟩)⟩)⟩)⟩)⟩)⟩)⟩) (ih35346 y35369 1 (by omega) (by omega) (by omega) (by omega) (by omega) (by omega) hF)
            have k35371 : (0 : Int32).toInt = 0 := rfl
            have b35373 := Int32.le_toInt (0 : Int32)
            have b35374 := Int32.toInt_lt (0 : Int32)
            have n35372a : 161 - (0 : Int32).toInt < (FU : Int) := by have := FU_eq; omega
            have n35372b : 0 < FU := by have := FU_eq; omega
            exact lp35342 FU 0 0 (by omega) (by omega) (by omega) (by omega) n35372a n35372b hF
      have k35375 : (0 : Int32).toInt = 0 := rfl
      have b35377 := Int32.le_toInt (0 : Int32)
      have b35378 := Int32.toInt_lt (0 : Int32)
      have n35376a : 161 - (0 : Int32).toInt < (FU : Int) := by have := FU_eq; omega
      have n35376b : 0 < FU := by have := FU_eq; omega
      exact lp35237 FU 0 0 (by omega) (by omega) n35376a n35376b hF
    · skip
      replace hF := FE.neg hF c34630
      refine g_iconst (v := (-1)) hk dX12_cover_12 (by decide) ?_
      exact g_iret hk hR rfl ⟨I, A, L, (show Md [18, 19, 20, 24] I I from Md.rf), (show Md [18, 19, 20, 21, 24, 26] A A from Md.rf), hIv, (-1), (show L = L from rfl), hF, rfl, rfl⟩ dX12_cover_13
noncomputable def bM12_lean_44 (I35413 : Nat → Int32) (z3 : Int32) (A35413 : Nat → Nat → Int32) (L35413 : Nat → Nat → Int64) : (Int32 → Int32 → Int32 → (Int32 × (Nat → Int32) × (Nat → Nat → Int32) × (Nat → Nat → Int64))) → Int32 → Int32 → Int32 → (Int32 × (Nat → Int32) × (Nat → Nat → Int32) × (Nat → Nat → Int64)) := fun kk35752 x35414 x35415 x35416 => if (I35413 23).toInt ≤ x35414.toInt then if z3.toInt ≠ 0 then (x35415, I35413, A35413, L35413) else (x35416, I35413, A35413, L35413) else f_lt ((A35413 23 x35414.toNatClampNeg) / (100 : Int32)) fun y35759 => f_lt ((A35413 23 x35414.toNatClampNeg) - (A35413 23 x35414.toNatClampNeg) / (100 : Int32) * (100 : Int32)) fun y35760 => f_lt (y35759 - y35760) fun y35763 => if 0 ≤ y35763.toInt then if y35763.toInt ≤ x35416.toInt then if x35414.toInt ≤ 0 then f_lt (x35414 + Int32.ofInt 1) fun y35769 => kk35752 y35769 x35415 x35416 else f_lt (x35414 - (1 : Int32)) fun y35771 => f_lt ((A35413 23 y35771.toNatClampNeg) - (A35413 23 x35414.toNatClampNeg)) fun y35774 => if y35774.toInt ≠ 101 then f_lt (x35414 + Int32.ofInt 1) fun y35777 => kk35752 y35777 x35415 x35416 else f_lt (x35415 + Int32.ofInt 1) fun y35780 => f_lt (x35414 + Int32.ofInt 1) fun y35781 => kk35752 y35781 y35780 x35416 else if x35414.toInt ≤ 0 then f_lt (x35414 + Int32.ofInt 1) fun y35784 => kk35752 y35784 x35415 y35763 else f_lt (x35414 - (1 : Int32)) fun y35786 => f_lt ((A35413 23 y35786.toNatClampNeg) - (A35413 23 x35414.toNatClampNeg)) fun y35789 => if y35789.toInt ≠ 101 then f_lt (x35414 + Int32.ofInt 1) fun y35792 => kk35752 y35792 x35415 y35763 else f_lt (x35415 + Int32.ofInt 1) fun y35795 => f_lt (x35414 + Int32.ofInt 1) fun y35796 => kk35752 y35796 y35795 y35763 else f_lt (-y35763) fun y35798 => if y35798.toInt ≤ x35416.toInt then if x35414.toInt ≤ 0 then f_lt (x35414 + Int32.ofInt 1) fun y35803 => kk35752 y35803 x35415 x35416 else f_lt (x35414 - (1 : Int32)) fun y35805 => f_lt ((A35413 23 y35805.toNatClampNeg) - (A35413 23 x35414.toNatClampNeg)) fun y35808 => if y35808.toInt ≠ 101 then f_lt (x35414 + Int32.ofInt 1) fun y35811 => kk35752 y35811 x35415 x35416 else f_lt (x35415 + Int32.ofInt 1) fun y35814 => f_lt (x35414 + Int32.ofInt 1) fun y35815 => kk35752 y35815 y35814 x35416 else if x35414.toInt ≤ 0 then f_lt (x35414 + Int32.ofInt 1) fun y35818 => kk35752 y35818 x35415 y35798 else f_lt (x35414 - (1 : Int32)) fun y35820 => f_lt ((A35413 23 y35820.toNatClampNeg) - (A35413 23 x35414.toNatClampNeg)) fun y35823 => if y35823.toInt ≠ 101 then f_lt (x35414 + Int32.ofInt 1) fun y35826 => kk35752 y35826 x35415 y35798 else f_lt (x35415 + Int32.ofInt 1) fun y35829 => f_lt (x35414 + Int32.ofInt 1) fun y35830 => kk35752 y35830 y35829 y35798
noncomputable def fM12_lean (I : Nat → Int32) (A : Nat → Nat → Int32) (L : Nat → Nat → Int64) (z1 : Int32) (z2 : Int32) (z3 : Int32) : Int32 × (Nat → Int32) × (Nat → Nat → Int32) × (Nat → Nat → Int64) := if fM12_isOf I A L z1 z2 = 0 then ((-1), I, A, L) else if fM12_in I A L z3 0 1 = 0 then ((-1), I, A, L) else f_bdM (fM12_copies I A L) fun _ I35403 A35403 L35403 => f_bdM (fM12_distanceOf I35403 A35403 L35403 z1 z2) fun y35408 I35409 A35409 L35409 => f_bdM (fM12_fillsWay I35409 A35409 L35409) fun _ I35413 A35413 L35413 => itr_iii dfM (bM12_lean_44 I35413 z3 A35413 L35413) FU 0 0 0
def wo_j204_X12_lean : List Cond := [Cond.methodLink RX12 342 yX12_isOf, Cond.instanceMethod yX12_isOf, Cond.selects RX12 yX12_isOf yX12_isOf, Cond.initialized RX12, Cond.methodLink RX12 244 yX12_in, Cond.static yX12_in, Cond.methodLink RX12 323 yX12_copies, Cond.instanceMethod yX12_copies, Cond.selects RX12 yX12_copies yX12_copies, Cond.methodLink RX12 345 yX12_distanceOf, Cond.instanceMethod yX12_distanceOf, Cond.selects RX12 yX12_distanceOf yX12_distanceOf, Cond.methodLink RX12 354 yX12_fillsWay, Cond.instanceMethod yX12_fillsWay, Cond.selects RX12 yX12_fillsWay yX12_fillsWay, Cond.fieldLink RX12 351 "WarpDeskModel" "wayMany" "I", Cond.fieldLink RX12 88 "WarpDeskModel" "wayAt" "[I"]
def wz_j204_X12_lean : List Cond := .code yX12_lean cX12_lean 8 (some .int) :: (wo_j204_X12_lean ++ (wsX120 ++ (wz_j168_X12_isOf ++ (wz_j145_X12_in ++ (wz_j151_X12_copies ++ (wz_j169_X12_distanceOf ++ (wz_j195_X12_fillsWay ++ ([] : List Cond))))))))
theorem zg_j204_X12_lean : ∀ w ∈ wz_j204_X12_lean, goodWord w = true := zg_cons rfl (zg_app (by decide +kernel) (zg_app zgU_wsX120 (zg_app zg_j168_X12_isOf (zg_app zg_j145_X12_in (zg_app zg_j151_X12_copies (zg_app zg_j169_X12_distanceOf (zg_app zg_j195_X12_fillsWay zg_nil)))))))
theorem zi_j204_X12_lean : ∀ w ∈ wz_j204_X12_lean, w ∈ lw_tbl := zi_cons zw_1839 (zi_app (zi_cons zw_1755 (zi_cons zw_1757 (zi_cons zw_78 (zi_cons zw_115 (zi_cons zw_1656 (zi_cons zw_1657 (zi_cons zw_1679 (zi_cons zw_1681 (zi_cons zw_70 (zi_cons zw_1759 (zi_cons zw_1761 (zi_cons zw_79 (zi_cons zw_1832 (zi_cons zw_1834 (zi_cons zw_92 (zi_cons zw_1425 (zi_cons zw_1424 zi_nil))))))))))))))))) (zi_app inX12 (zi_app zi_j168_X12_isOf (zi_app zi_j145_X12_in (zi_app zi_j151_X12_copies (zi_app zi_j169_X12_distanceOf (zi_app zi_j195_X12_fillsWay zi_nil)))))))
set_option maxHeartbeats 4000000 in
set_option maxRecDepth 100000 in
theorem j204_X12_lean (l : Launch) (D : va_G) (zt : Nat × Nat × Nat × (Nat → Nat) × (Nat → Nat)) (r : Nat → Nat) (g : Nat → ClassId) (I : Nat → Int32) (A : Nat → Nat → Int32) (L : Nat → Nat → Int64) (z1 : Int32) (z2 : Int32) (z3 : Int32) (hIv : IvM I A) : GM l D zt (tyM g) yX12_lean wz_j204_X12_lean ({ frames := 6, cells := 0, slots := 0, locals := 134 } : Room) [.ref (r 0), .int z1, .int z2, .int z3] (wM r g I A L) (fun v _ w' => ∃ (I' : Nat → Int32) (A' : Nat → Nat → Int32) (L' : Nat → Nat → Int64), Md [18, 19, 20, 23] I I' ∧ Md [18, 19, 20, 21, 23] A A' ∧ IvM I' A' ∧ ∃ y0 : Int32, (L' = L) ∧ FE (fM12_lean I A L z1 z2 z3) (y0, I', A', L') ∧ v = some (.int y0) ∧ w' = wM r g I' A' L') 0 0 := by
  refine GM.of (cc := cX12_lean) (maxL := 8) (ret := (some .int)) (own := RX12) (lv := [(0, .ref (r 0)), (1, .int z1), (2, .int z2), (3, .int z3)]) (by decide) rfl rfl (Nat.le_of_ble_eq_true rfl) rfl (fun κ sz hk hR hN => ?_)
  have hin12 : ∀ w ∈ u_ws RX12 TX12 55, w ∈ wz_j204_X12_lean := fun w h => (List.mem_cons_of_mem _ (List.mem_append_right _ (List.mem_append_left _ h)))
  have hF : FE (fM12_lean I A L z1 z2 z3) (fM12_lean I A L z1 z2 z3) := FE.rf
  refine g_aload_n hk dX12_lean_0 rfl ?_
  refine g_iload_n hk dX12_lean_1 rfl ?_
  refine g_iload_n hk dX12_lean_2 rfl ?_
  refine g_callV (n := 2) hk (j168_X12_isOf l D zt r g I A L z1 z2 hIv) (SP.same _) (fun _ h => h) (gi_V (List.mem_cons_of_mem _ (List.mem_append_left _ (List.mem_of_getElem? (i := 0) rfl))) (List.mem_cons_of_mem _ (List.mem_append_left _ (List.mem_of_getElem? (i := 1) rfl))) (List.mem_cons_of_mem _ (List.mem_append_left _ (List.mem_of_getElem? (i := 2) rfl))) (List.mem_cons_of_mem _ (List.mem_append_left _ (List.mem_of_getElem? (i := 3) rfl))) (gi_sub (fun w h => (List.mem_cons_of_mem _ (List.mem_append_right _ (List.mem_append_right _ (List.mem_append_left _ h))))) zg_j168_X12_isOf)) rfl rfl rfl (by decide +kernel) ⟨Nat.le_of_ble_eq_true rfl, Nat.le_of_ble_eq_true rfl⟩ 0 rfl rfl rfl rfl (Nat.le_of_ble_eq_true rfl) ⟨Nat.le_of_ble_eq_true rfl, Nat.le_of_ble_eq_true rfl⟩ dX12_lean_3 (fun v ty' w' hp hk' => ?_)
  rcases hp with ⟨hC, rfl, rfl⟩ | ⟨c35380, c35381, c35382, c35383, c35384, c35385, c35386, c35387, c35388, c35389, c35390, c35391, hC, rfl, rfl⟩
  · skip
    replace hF := FE.pos hF hC
    show GW κ 8 0 0 (wM r g I A L) 6 [(0, .ref (r 0)), (1, .int z1), (2, .int z2), (3, .int z3)] [.int 0]
    refine g_if_eq (tgt := 18) (a := 0) hk dX12_lean_6 (by decide) rfl (fun _ => ?_) (fun z9 => absurd (show (0 : Int) = (0 : Int) from by decide) z9)
    refine g_iconst (v := (-1)) hk dX12_lean_18 (by decide) ?_
    exact g_iret hk hR rfl ⟨I, A, L, (show Md [18, 19, 20, 23] I I from Md.rf), (show Md [18, 19, 20, 21, 23] A A from Md.rf), hIv, (-1), (show L = L from rfl), hF, rfl, rfl⟩ dX12_lean_19
  · skip
    replace hF := FE.neg hF (fe_ne hC (by decide))
    have f35393 : 0 ≤ (A 11 (5 * (I 15) + z1).toNatClampNeg).toInt ∧ (A 11 (5 * (I 15) + z1).toNatClampNeg).toInt ≤ 16 := IvM_a11 hIv _
    show GW κ 8 0 0 (wM r g I A L) 6 [(0, .ref (r 0)), (1, .int z1), (2, .int z2), (3, .int z3)] [.int 1]
    refine g_if_eq (tgt := 18) (a := 1) hk dX12_lean_6 (by decide) rfl (fun z9 => absurd z9 (show ¬ ((1 : Int) = (0 : Int)) from by decide)) (fun _ => ?_)
    refine g_iload_n hk dX12_lean_9 rfl ?_
    refine g_iconst (v := 0) hk dX12_lean_10 (by decide) ?_
    refine g_iconst (v := 1) hk dX12_lean_11 (by decide) ?_
    have k35394 : (0 : Int32).toInt = 0 := rfl
    have k35395 : (1 : Int32).toInt = 1 := rfl
    refine g_callS (n := 3) hk (j145_X12_in l D zt r g I A L z3 0 1 hIv) (SP.same _) (fun _ h => h) (gi_S (List.mem_cons_of_mem _ (List.mem_append_left _ (List.mem_of_getElem? (i := 4) rfl))) (List.mem_cons_of_mem _ (List.mem_append_left _ (List.mem_of_getElem? (i := 5) rfl))) (List.mem_cons_of_mem _ (List.mem_append_left _ (List.mem_of_getElem? (i := 3) rfl))) (gi_sub (fun w h => (List.mem_cons_of_mem _ (List.mem_append_right _ (List.mem_append_right _ (List.mem_append_right _ (List.mem_append_left _ h)))))) zg_j145_X12_in)) rfl rfl rfl (by decide +kernel) ⟨Nat.le_of_ble_eq_true rfl, Nat.le_of_ble_eq_true rfl⟩ rfl rfl (Nat.le_of_ble_eq_true rfl) ⟨Nat.le_of_ble_eq_true rfl, Nat.le_of_ble_eq_true rfl⟩ dX12_lean_12 (fun v ty' w' hp hk' => ?_)
    rcases hp with ⟨c35396, hC, rfl, rfl⟩ | ⟨c35398, c35399, hC, rfl, rfl⟩
    · skip
      replace hF := FE.pos hF hC
      have b35401l := Int32.le_toInt z3
      have b35401h := Int32.toInt_lt z3
      show GW κ 8 0 0 (wM r g I A L) 15 [(0, .ref (r 0)), (1, .int z1), (2, .int z2), (3, .int z3)] [.int 0]
      refine g_if_ne (tgt := 20) (a := 0) hk dX12_lean_15 (by decide) rfl (fun z9 => absurd z9 (show ¬ ((0 : Int) ≠ (0 : Int)) from by decide)) (fun _ => ?_)
      refine g_iconst (v := (-1)) hk dX12_lean_18 (by decide) ?_
      exact g_iret hk hR rfl ⟨I, A, L, (show Md [18, 19, 20, 23] I I from Md.rf), (show Md [18, 19, 20, 21, 23] A A from Md.rf), hIv, (-1), (show L = L from rfl), hF, rfl, rfl⟩ dX12_lean_19
    · skip
      replace hF := FE.neg hF (fe_ne hC (by decide))
      show GW κ 8 0 0 (wM r g I A L) 15 [(0, .ref (r 0)), (1, .int z1), (2, .int z2), (3, .int z3)] [.int 1]
      refine g_if_ne (tgt := 20) (a := 1) hk dX12_lean_15 (by decide) rfl (fun _ => ?_) (fun z9 => absurd (show (1 : Int) ≠ (0 : Int) from by decide) z9)
      refine g_aload_n hk dX12_lean_20 rfl ?_
      refine g_callV (n := 0) hk (j151_X12_copies l D zt r g I A L  hIv) (SP.same _) (fun _ h => h) (gi_V (List.mem_cons_of_mem _ (List.mem_append_left _ (List.mem_of_getElem? (i := 6) rfl))) (List.mem_cons_of_mem _ (List.mem_append_left _ (List.mem_of_getElem? (i := 7) rfl))) (List.mem_cons_of_mem _ (List.mem_append_left _ (List.mem_of_getElem? (i := 8) rfl))) (List.mem_cons_of_mem _ (List.mem_append_left _ (List.mem_of_getElem? (i := 3) rfl))) (gi_sub (fun w h => (List.mem_cons_of_mem _ (List.mem_append_right _ (List.mem_append_right _ (List.mem_append_right _ (List.mem_append_right _ (List.mem_append_left _ h))))))) zg_j151_X12_copies)) rfl rfl rfl (by decide +kernel) ⟨Nat.le_of_ble_eq_true rfl, Nat.le_of_ble_eq_true rfl⟩ 0 rfl rfl rfl rfl (Nat.le_of_ble_eq_true rfl) ⟨Nat.le_of_ble_eq_true rfl, Nat.le_of_ble_eq_true rfl⟩ dX12_lean_21 (fun v ty' w' hp hk' => ?_)
      obtain ⟨I35403, A35403, L35403, hI35403, hA35403, hV35403, r35404, r35405, hL35403, hC, rfl, rfl⟩ := hp
      replace hF := FE.bdM hF hC
      have f35406 := IvM_s17_0 hIv
      have f35407 := IvM_s17_164 hIv
      show GW κ 8 0 0 (wM r g I35403 A35403 L35403) 24 [(0, .ref (r 0)), (1, .int z1), (2, .int z2), (3, .int z3)] []
      refine g_aload_n hk dX12_lean_24 rfl ?_
      refine g_iload_n hk dX12_lean_25 rfl ?_
      refine g_iload_n hk dX12_lean_26 rfl ?_
      refine g_callV (n := 2) hk (j169_X12_distanceOf l D zt r g I35403 A35403 L35403 z1 z2 hV35403 (by omega) (by omega) (by omega) (by omega) (by first | (rw [show (A35403 11 (5 * (I35403 15) + z1).toNatClampNeg) = (A 11 (5 * (I 15) + z1).toNatClampNeg) from (by rw [show I35403 15 = (I 15) from (hI35403 15 rfl)]; exact (congrFun (hA35403 11 rfl) _))] <;> omega) | omega) (by first | (rw [show (A35403 11 (5 * (I35403 15) + z1).toNatClampNeg) = (A 11 (5 * (I 15) + z1).toNatClampNeg) from (by rw [show I35403 15 = (I 15) from (hI35403 15 rfl)]; exact (congrFun (hA35403 11 rfl) _))] <;> omega) | omega)) (SP.same _) (fun _ h => h) (gi_V (List.mem_cons_of_mem _ (List.mem_append_left _ (List.mem_of_getElem? (i := 9) rfl))) (List.mem_cons_of_mem _ (List.mem_append_left _ (List.mem_of_getElem? (i := 10) rfl))) (List.mem_cons_of_mem _ (List.mem_append_left _ (List.mem_of_getElem? (i := 11) rfl))) (List.mem_cons_of_mem _ (List.mem_append_left _ (List.mem_of_getElem? (i := 3) rfl))) (gi_sub (fun w h => (List.mem_cons_of_mem _ (List.mem_append_right _ (List.mem_append_right _ (List.mem_append_right _ (List.mem_append_right _ (List.mem_append_right _ (List.mem_append_left _ h)))))))) zg_j169_X12_distanceOf)) rfl rfl rfl (by decide +kernel) ⟨Nat.le_of_ble_eq_true rfl, Nat.le_of_ble_eq_true rfl⟩ 0 rfl rfl rfl rfl (Nat.le_of_ble_eq_true rfl) ⟨Nat.le_of_ble_eq_true rfl, Nat.le_of_ble_eq_true rfl⟩ dX12_lean_27 (fun v ty' w' hp hk' => ?_)
      obtain ⟨I35409, A35409, L35409, hI35409, hA35409, hV35409, y35408, r35410, hL35409, hC, rfl, rfl⟩ := hp
      replace hF := FE.bdM hF hC
      have f35411 := IvM_f18 hV35409
      show GW κ 8 0 0 (wM r g I35409 A35409 L35409) 30 [(0, .ref (r 0)), (1, .int z1), (2, .int z2), (3, .int z3)] [.int y35408]
      refine g_pop hk dX12_lean_30 rfl ?_
      refine g_aload_n hk dX12_lean_31 rfl ?_
      refine g_callV (n := 0) hk (j195_X12_fillsWay l D zt r g I35409 A35409 L35409  hV35409) (SP.same _) (fun _ h => h) (gi_V (List.mem_cons_of_mem _ (List.mem_append_left _ (List.mem_of_getElem? (i := 12) rfl))) (List.mem_cons_of_mem _ (List.mem_append_left _ (List.mem_of_getElem? (i := 13) rfl))) (List.mem_cons_of_mem _ (List.mem_append_left _ (List.mem_of_getElem? (i := 14) rfl))) (List.mem_cons_of_mem _ (List.mem_append_left _ (List.mem_of_getElem? (i := 3) rfl))) (gi_sub (fun w h => (List.mem_cons_of_mem _ (List.mem_append_right _ (List.mem_append_right _ (List.mem_append_right _ (List.mem_append_right _ (List.mem_append_right _ (List.mem_append_right _ (List.mem_append_left _ h))))))))) zg_j195_X12_fillsWay)) rfl rfl rfl (by decide +kernel) ⟨Nat.le_of_ble_eq_true rfl, Nat.le_of_ble_eq_true rfl⟩ 0 rfl rfl rfl rfl (Nat.le_of_ble_eq_true rfl) ⟨Nat.le_of_ble_eq_true rfl, Nat.le_of_ble_eq_true rfl⟩ dX12_lean_32 (fun v ty' w' hp hk' => ?_)
      obtain ⟨I35413, A35413, L35413, hI35413, hA35413, hV35413, hL35413, hC, rfl, rfl⟩ := hp
      replace hF := FE.bdM hF hC
      show GW κ 8 0 0 (wM r g I35413 A35413 L35413) 35 [(0, .ref (r 0)), (1, .int z1), (2, .int z2), (3, .int z3)] []
      refine g_iconst (v := 0) hk dX12_lean_35 (by decide) ?_
      refine g_istore (lv' := [(4, .int 0), (0, .ref (r 0)), (1, .int z1), (2, .int z2), (3, .int z3)]) hk dX12_lean_36 (by decide) rfl ?_
      refine g_iconst (v := 0) hk dX12_lean_38 (by decide) ?_
      refine g_istore (lv' := [(5, .int 0), (4, .int 0), (0, .ref (r 0)), (1, .int z1), (2, .int z2), (3, .int z3)]) hk dX12_lean_39 (by decide) rfl ?_
      refine g_iconst (v := 0) hk dX12_lean_41 (by decide) ?_
      refine g_istore (lv' := [(6, .int 0), (5, .int 0), (4, .int 0), (0, .ref (r 0)), (1, .int z1), (2, .int z2), (3, .int z3)]) hk dX12_lean_42 (by decide) rfl ?_
      have lp35749 : ∀ (n35750 : Nat) (x35414 : Int32) (x35415 : Int32) (x35416 : Int32), (0 ≤ x35414.toInt) → (x35414.toInt ≤ 40) → (0 ≤ x35416.toInt) → (41 - x35414.toInt < (n35750 : Int)) → (0 < n35750) → (FE (fM12_lean I A L z1 z2 z3) (itr_iii dfM (bM12_lean_44 I35413 z3 A35413 L35413) n35750 x35414 x35415 x35416)) → GW κ 8 0 0 (wM r g I35413 A35413 L35413) 44 [(6, .int x35414), (5, .int x35415), (4, .int x35416), (0, .ref (r 0)), (1, .int z1), (2, .int z2), (3, .int z3)] [] := by
        intro n35750
        induction n35750 with
        | zero =>
          intro x35414 x35415 x35416 h35746 h35747 h35748 m35751 m35751z hF
          exact absurd m35751z (Nat.lt_irrefl 0)
        | succ n35750 ih35753 =>
          intro x35414 x35415 x35416 h35746 h35747 h35748 m35751 m35751z hF
          replace hF := FE.itr_iii hF
          refine g_iload hk dX12_lean_44 rfl ?_
          refine g_aload_n hk dX12_lean_46 rfl ?_
          refine gM_i23 (v := (I35413 23)) hk hin12 (List.mem_cons_of_mem _ (List.mem_append_left _ (List.mem_of_getElem? (i := 15) rfl))) dX12_lean_47 rfl ?_
          have f35754 := IvM_f23 hV35413
          refine g_icmp_ge (tgt := 133) (a := x35414.toInt) (b := (I35413 23).toInt) hk dX12_lean_50 (by decide) rfl rfl (fun c35755 => ?_) (fun c35755 => ?_)
          · skip
            replace hF := FE.pos hF c35755
            refine g_iload_n hk dX12_lean_133 rfl ?_
            refine g_if_ne (tgt := 142) (a := z3.toInt) hk dX12_lean_134 (by decide) rfl (fun c35756 => ?_) (fun c35756 => ?_)
            · skip
              replace hF := FE.pos hF c35756
              refine g_iload hk dX12_lean_142 rfl ?_
              have b35757l := Int32.le_toInt x35415
              have b35757h := Int32.toInt_lt x35415
              exact g_iret hk hR rfl ⟨I35413, A35413, L35413, (show Md [18, 19, 20, 23] I I35413 from (Md.tr (Md.tr (Md.tr Md.rf hI35403 rfl) hI35409 rfl) hI35413 rfl)), (show Md [18, 19, 20, 21, 23] A A35413 from (Md.tr (Md.tr (Md.tr Md.rf hA35403 rfl) hA35409 rfl) hA35413 rfl)), hV35413, x35415, (show L35413 = L from (hL35413.trans (hL35409.trans hL35403))), hF, rfl, rfl⟩ dX12_lean_144
            · skip
              replace hF := FE.neg hF c35756
              refine g_iload hk dX12_lean_137 rfl ?_
              refine g_goto (tgt := 144) hk dX12_lean_139 (by decide) ?_
              have b35758l := Int32.le_toInt x35416
              have b35758h := Int32.toInt_lt x35416
              exact g_iret hk hR rfl ⟨I35413, A35413, L35413, (show Md [18, 19, 20, 23] I I35413 from (Md.tr (Md.tr (Md.tr Md.rf hI35403 rfl) hI35409 rfl) hI35413 rfl)), (show Md [18, 19, 20, 21, 23] A A35413 from (Md.tr (Md.tr (Md.tr Md.rf hA35403 rfl) hA35409 rfl) hA35413 rfl)), hV35413, x35416, (show L35413 = L from (hL35413.trans (hL35409.trans hL35403))), hF, rfl, rfl⟩ dX12_lean_144
          · skip
            replace hF := FE.neg hF c35755
            refine g_aload_n hk dX12_lean_53 rfl ?_
            refine gM_r0_46 hk hin12 (List.mem_cons_of_mem _ (List.mem_append_left _ (List.mem_of_getElem? (i := 16) rfl))) dX12_lean_54 ?_
            refine g_iload hk dX12_lean_57 rfl ?_
            refine lM_23 (v := (A35413 23 x35414.toNatClampNeg)) hk (vp_in_iff.mpr ⟨by omega, by omega⟩) rfl dX12_lean_59 ?_
            refine g_bipush (v := 100) hk dX12_lean_60 (by decide) ?_
            refine g_idiv hk dX12_lean_62 (by decide) ?_
            refine g_topi (fun y35759 ey35759 => ?_)
            replace hF := FE.lt hF ey35759
            refine g_aload_n hk dX12_lean_63 rfl ?_
            refine gM_r0_46 hk hin12 (List.mem_cons_of_mem _ (List.mem_append_left _ (List.mem_of_getElem? (i := 16) rfl))) dX12_lean_64 ?_
            refine g_iload hk dX12_lean_67 rfl ?_
            refine lM_23 (v := (A35413 23 x35414.toNatClampNeg)) hk (vp_in_iff.mpr ⟨by omega, by omega⟩) rfl dX12_lean_69 ?_
            refine g_bipush (v := 100) hk dX12_lean_70 (by decide) ?_
            refine g_irem hk dX12_lean_72 (by decide) ?_
            refine g_topi (fun y35760 ey35760 => ?_)
            replace hF := FE.lt hF ey35760
            have b35761l := Int32.le_toInt y35759
            have b35761h := Int32.toInt_lt y35759
            have b35762l := Int32.le_toInt y35760
            have b35762h := Int32.toInt_lt y35760
            refine g_isub hk dX12_lean_73 ?_
            refine g_topi (fun y35763 ey35763 => ?_)
            replace hF := FE.lt hF ey35763
            have hy35763 := i32_sub0 ey35763
            refine g_istore (lv' := [(7, .int y35763), (6, .int x35414), (5, .int x35415), (4, .int x35416), (0, .ref (r 0)), (1, .int z1), (2, .int z2), (3, .int z3)]) hk dX12_lean_74 (by decide) rfl ?_
            refine g_iload hk dX12_lean_76 rfl ?_
            have b35764l := Int32.le_toInt y35763
            have b35764h := Int32.toInt_lt y35763
            refine g_if_ge (tgt := 86) (a := y35763.toInt) hk dX12_lean_78 (by decide) rfl (fun c35765 => ?_) (fun c35765 => ?_)
            · skip
              replace hF := FE.pos hF c35765
              refine g_iload hk dX12_lean_86 rfl ?_
              refine g_iload hk dX12_lean_88 rfl ?_
              have b35766l := Int32.le_toInt x35416
              have b35766h := Int32.toInt_lt x35416
              refine g_icmp_le (tgt := 97) (a := y35763.toInt) (b := x35416.toInt) hk dX12_lean_90 (by decide) rfl rfl (fun c35767 => ?_) (fun c35767 => ?_)
              · skip
                replace hF := FE.pos hF c35767
                refine g_iload hk dX12_lean_97 rfl ?_
                refine g_if_le (tgt := 127) (a := x35414.toInt) hk dX12_lean_99 (by decide) rfl (fun c35768 => ?_) (fun c35768 => ?_)
                · skip
                  replace hF := FE.pos hF c35768
                  obtain ⟨y35769, ey35769⟩ : ∃ y : Int32, y = x35414 + Int32.ofInt 1 := ⟨_, rfl⟩
                  replace hF := FE.lt hF ey35769
                  have hy35769 : y35769.toInt = x35414.toInt + 1 := i32_add ey35769 rfl (by decide) (by omega) (by omega)
                  refine g_iinc (v := y35769) (lv' := [(6, .int y35769), (7, .int y35763), (5, .int x35415), (4, .int x35416), (0, .ref (r 0)), (1, .int z1), (2, .int z2), (3, .int z3)]) hk 1 dX12_lean_127 rfl ey35769.symm (by decide) rfl ?_
                  refine g_goto (tgt := 44) hk dX12_lean_130 (by decide) ?_
                  have b35770l := Int32.le_toInt x35415
                  have b35770h := Int32.toInt_lt x35415
                  exact g_lv (List.forall_mem_cons.mpr ⟨List.mem_of_getElem? (i := 0) rfl, (List.forall_mem_cons.mpr ⟨List.mem_of_getElem? (i := 2) rfl, (List.forall_mem_cons.mpr ⟨List.mem_of_getElem? (i := 3) rfl, (List.forall_mem_cons.mpr ⟨List.mem_of_getElem? (i := 4) rfl, (List.forall_mem_cons.mpr ⟨List.mem_of_getElem? (i := 5) rfl, (List.forall_mem_cons.mpr ⟨List.mem_of_getElem? (i := 6) rfl, (List.forall_mem_cons.mpr ⟨List.mem_of_getElem? (i := 7) rfl, (fun _ h => absurd h List.not_mem_nil)⟩)⟩)⟩)⟩)⟩)⟩)⟩) (ih35753 y35769 x35415 x35416 (by omega) (by omega) (by omega) (by omega) (by omega) hF)
                · skip
                  replace hF := FE.neg hF c35768
                  refine g_aload_n hk dX12_lean_102 rfl ?_
                  refine gM_r0_46 hk hin12 (List.mem_cons_of_mem _ (List.mem_append_left _ (List.mem_of_getElem? (i := 16) rfl))) dX12_lean_103 ?_
                  refine g_iload hk dX12_lean_106 rfl ?_
                  refine g_iconst (v := 1) hk dX12_lean_108 (by decide) ?_
                  refine g_isub hk dX12_lean_109 ?_
                  refine g_topi (fun y35771 ey35771 => ?_)
                  replace hF := FE.lt hF ey35771
                  have hy35771 : y35771.toInt = x35414.toInt - 1 := i32_sub ey35771 rfl rfl (by omega) (by omega)
                  refine lM_23 (v := (A35413 23 y35771.toNatClampNeg)) hk (vp_in_iff.mpr ⟨by omega, by omega⟩) rfl dX12_lean_110 ?_
                  refine g_aload_n hk dX12_lean_111 rfl ?_
                  refine gM_r0_46 hk hin12 (List.mem_cons_of_mem _ (List.mem_append_left _ (List.mem_of_getElem? (i := 16) rfl))) dX12_lean_112 ?_
                  refine g_iload hk dX12_lean_115 rfl ?_
                  refine lM_23 (v := (A35413 23 x35414.toNatClampNeg)) hk (vp_in_iff.mpr ⟨by omega, by omega⟩) rfl dX12_lean_117 ?_
                  have b35772l := Int32.le_toInt (A35413 23 y35771.toNatClampNeg)
                  have b35772h := Int32.toInt_lt (A35413 23 y35771.toNatClampNeg)
                  have b35773l := Int32.le_toInt (A35413 23 x35414.toNatClampNeg)
                  have b35773h := Int32.toInt_lt (A35413 23 x35414.toNatClampNeg)
                  refine g_isub hk dX12_lean_118 ?_
                  refine g_topi (fun y35774 ey35774 => ?_)
                  replace hF := FE.lt hF ey35774
                  have hy35774 := i32_sub0 ey35774
                  refine g_bipush (v := 101) hk dX12_lean_119 (by decide) ?_
                  have b35775l := Int32.le_toInt y35774
                  have b35775h := Int32.toInt_lt y35774
                  refine g_icmp_ne (tgt := 127) (a := y35774.toInt) (b := 101) hk dX12_lean_121 (by decide) rfl rfl (fun c35776 => ?_) (fun c35776 => ?_)
                  · skip
                    replace hF := FE.pos hF c35776
                    obtain ⟨y35777, ey35777⟩ : ∃ y : Int32, y = x35414 + Int32.ofInt 1 := ⟨_, rfl⟩
                    replace hF := FE.lt hF ey35777
                    have hy35777 : y35777.toInt = x35414.toInt + 1 := i32_add ey35777 rfl (by decide) (by omega) (by omega)
                    refine g_iinc (v := y35777) (lv' := [(6, .int y35777), (7, .int y35763), (5, .int x35415), (4, .int x35416), (0, .ref (r 0)), (1, .int z1), (2, .int z2), (3, .int z3)]) hk 1 dX12_lean_127 rfl ey35777.symm (by decide) rfl ?_
                    refine g_goto (tgt := 44) hk dX12_lean_130 (by decide) ?_
                    have b35778l := Int32.le_toInt x35415
                    have b35778h := Int32.toInt_lt x35415
                    exact g_lv (List.forall_mem_cons.mpr ⟨List.mem_of_getElem? (i := 0) rfl, (List.forall_mem_cons.mpr ⟨List.mem_of_getElem? (i := 2) rfl, (List.forall_mem_cons.mpr ⟨List.mem_of_getElem? (i := 3) rfl, (List.forall_mem_cons.mpr ⟨List.mem_of_getElem? (i := 4) rfl, (List.forall_mem_cons.mpr ⟨List.mem_of_getElem? (i := 5) rfl, (List.forall_mem_cons.mpr ⟨List.mem_of_getElem? (i := 6) rfl, (List.forall_mem_cons.mpr ⟨List.mem_of_getElem? (i := 7) rfl, (fun _ h => absurd h List.not_mem_nil)⟩)⟩)⟩)⟩)⟩)⟩)⟩) (ih35753 y35777 x35415 x35416 (by omega) (by omega) (by omega) (by omega) (by omega) hF)
                  · skip
                    replace hF := FE.neg hF c35776
                    have b35779l := Int32.le_toInt x35415
                    have b35779h := Int32.toInt_lt x35415
                    obtain ⟨y35780, ey35780⟩ : ∃ y : Int32, y = x35415 + Int32.ofInt 1 := ⟨_, rfl⟩
                    replace hF := FE.lt hF ey35780
                    refine g_iinc (v := y35780) (lv' := [(5, .int y35780), (7, .int y35763), (6, .int x35414), (4, .int x35416), (0, .ref (r 0)), (1, .int z1), (2, .int z2), (3, .int z3)]) hk 2 dX12_lean_124 rfl ey35780.symm (by decide) rfl ?_
                    obtain ⟨y35781, ey35781⟩ : ∃ y : Int32, y = x35414 + Int32.ofInt 1 := ⟨_, rfl⟩
                    replace hF := FE.lt hF ey35781
                    have hy35781 : y35781.toInt = x35414.toInt + 1 := i32_add ey35781 rfl (by decide) (by omega) (by omega)
                    refine g_iinc (v := y35781) (lv' := [(6, .int y35781), (5, .int y35780), (7, .int y35763), (4, .int x35416), (0, .ref (r 0)), (1, .int z1), (2, .int z2), (3, .int z3)]) hk 2 dX12_lean_127 rfl ey35781.symm (by decide) rfl ?_
                    refine g_goto (tgt := 44) hk dX12_lean_130 (by decide) ?_
                    have b35782l := Int32.le_toInt y35780
                    have b35782h := Int32.toInt_lt y35780
                    exact g_lv (List.forall_mem_cons.mpr ⟨List.mem_of_getElem? (i := 0) rfl, (List.forall_mem_cons.mpr ⟨List.mem_of_getElem? (i := 1) rfl, (List.forall_mem_cons.mpr ⟨List.mem_of_getElem? (i := 3) rfl, (List.forall_mem_cons.mpr ⟨List.mem_of_getElem? (i := 4) rfl, (List.forall_mem_cons.mpr ⟨List.mem_of_getElem? (i := 5) rfl, (List.forall_mem_cons.mpr ⟨List.mem_of_getElem? (i := 6) rfl, (List.forall_mem_cons.mpr ⟨List.mem_of_getElem? (i := 7) rfl, (fun _ h => absurd h List.not_mem_nil)⟩)⟩)⟩)⟩)⟩)⟩)⟩) (ih35753 y35781 y35780 x35416 (by omega) (by omega) (by omega) (by omega) (by omega) hF)
              · skip
                replace hF := FE.neg hF c35767
                refine g_iload hk dX12_lean_93 rfl ?_
                refine g_istore (lv' := [(4, .int y35763), (7, .int y35763), (6, .int x35414), (5, .int x35415), (0, .ref (r 0)), (1, .int z1), (2, .int z2), (3, .int z3)]) hk dX12_lean_95 (by decide) rfl ?_
                refine g_iload hk dX12_lean_97 rfl ?_
                refine g_if_le (tgt := 127) (a := x35414.toInt) hk dX12_lean_99 (by decide) rfl (fun c35783 => ?_) (fun c35783 => ?_)
                · skip
                  replace hF := FE.pos hF c35783
                  obtain ⟨y35784, ey35784⟩ : ∃ y : Int32, y = x35414 + Int32.ofInt 1 := ⟨_, rfl⟩
                  replace hF := FE.lt hF ey35784
                  have hy35784 : y35784.toInt = x35414.toInt + 1 := i32_add ey35784 rfl (by decide) (by omega) (by omega)
                  refine g_iinc (v := y35784) (lv' := [(6, .int y35784), (4, .int y35763), (7, .int y35763), (5, .int x35415), (0, .ref (r 0)), (1, .int z1), (2, .int z2), (3, .int z3)]) hk 2 dX12_lean_127 rfl ey35784.symm (by decide) rfl ?_
                  refine g_goto (tgt := 44) hk dX12_lean_130 (by decide) ?_
                  have b35785l := Int32.le_toInt x35415
                  have b35785h := Int32.toInt_lt x35415
                  exact g_lv (List.forall_mem_cons.mpr ⟨List.mem_of_getElem? (i := 0) rfl, (List.forall_mem_cons.mpr ⟨List.mem_of_getElem? (i := 3) rfl, (List.forall_mem_cons.mpr ⟨List.mem_of_getElem? (i := 1) rfl, (List.forall_mem_cons.mpr ⟨List.mem_of_getElem? (i := 4) rfl, (List.forall_mem_cons.mpr ⟨List.mem_of_getElem? (i := 5) rfl, (List.forall_mem_cons.mpr ⟨List.mem_of_getElem? (i := 6) rfl, (List.forall_mem_cons.mpr ⟨List.mem_of_getElem? (i := 7) rfl, (fun _ h => absurd h List.not_mem_nil)⟩)⟩)⟩)⟩)⟩)⟩)⟩) (ih35753 y35784 x35415 y35763 (by omega) (by omega) (by omega) (by omega) (by omega) hF)
                · skip
                  replace hF := FE.neg hF c35783
                  refine g_aload_n hk dX12_lean_102 rfl ?_
                  refine gM_r0_46 hk hin12 (List.mem_cons_of_mem _ (List.mem_append_left _ (List.mem_of_getElem? (i := 16) rfl))) dX12_lean_103 ?_
                  refine g_iload hk dX12_lean_106 rfl ?_
                  refine g_iconst (v := 1) hk dX12_lean_108 (by decide) ?_
                  refine g_isub hk dX12_lean_109 ?_
                  refine g_topi (fun y35786 ey35786 => ?_)
                  replace hF := FE.lt hF ey35786
                  have hy35786 : y35786.toInt = x35414.toInt - 1 := i32_sub ey35786 rfl rfl (by omega) (by omega)
                  refine lM_23 (v := (A35413 23 y35786.toNatClampNeg)) hk (vp_in_iff.mpr ⟨by omega, by omega⟩) rfl dX12_lean_110 ?_
                  refine g_aload_n hk dX12_lean_111 rfl ?_
                  refine gM_r0_46 hk hin12 (List.mem_cons_of_mem _ (List.mem_append_left _ (List.mem_of_getElem? (i := 16) rfl))) dX12_lean_112 ?_
                  refine g_iload hk dX12_lean_115 rfl ?_
                  refine lM_23 (v := (A35413 23 x35414.toNatClampNeg)) hk (vp_in_iff.mpr ⟨by omega, by omega⟩) rfl dX12_lean_117 ?_
                  have b35787l := Int32.le_toInt (A35413 23 y35786.toNatClampNeg)
                  have b35787h := Int32.toInt_lt (A35413 23 y35786.toNatClampNeg)
                  have b35788l := Int32.le_toInt (A35413 23 x35414.toNatClampNeg)
                  have b35788h := Int32.toInt_lt (A35413 23 x35414.toNatClampNeg)
                  refine g_isub hk dX12_lean_118 ?_
                  refine g_topi (fun y35789 ey35789 => ?_)
                  replace hF := FE.lt hF ey35789
                  have hy35789 := i32_sub0 ey35789
                  refine g_bipush (v := 101) hk dX12_lean_119 (by decide) ?_
                  have b35790l := Int32.le_toInt y35789
                  have b35790h := Int32.toInt_lt y35789
                  refine g_icmp_ne (tgt := 127) (a := y35789.toInt) (b := 101) hk dX12_lean_121 (by decide) rfl rfl (fun c35791 => ?_) (fun c35791 => ?_)
                  · skip
                    replace hF := FE.pos hF c35791
                    obtain ⟨y35792, ey35792⟩ : ∃ y : Int32, y = x35414 + Int32.ofInt 1 := ⟨_, rfl⟩
                    replace hF := FE.lt hF ey35792
                    have hy35792 : y35792.toInt = x35414.toInt + 1 := i32_add ey35792 rfl (by decide) (by omega) (by omega)
                    refine g_iinc (v := y35792) (lv' := [(6, .int y35792), (4, .int y35763), (7, .int y35763), (5, .int x35415), (0, .ref (r 0)), (1, .int z1), (2, .int z2), (3, .int z3)]) hk 2 dX12_lean_127 rfl ey35792.symm (by decide) rfl ?_
                    refine g_goto (tgt := 44) hk dX12_lean_130 (by decide) ?_
                    have b35793l := Int32.le_toInt x35415
                    have b35793h := Int32.toInt_lt x35415
                    exact g_lv (List.forall_mem_cons.mpr ⟨List.mem_of_getElem? (i := 0) rfl, (List.forall_mem_cons.mpr ⟨List.mem_of_getElem? (i := 3) rfl, (List.forall_mem_cons.mpr ⟨List.mem_of_getElem? (i := 1) rfl, (List.forall_mem_cons.mpr ⟨List.mem_of_getElem? (i := 4) rfl, (List.forall_mem_cons.mpr ⟨List.mem_of_getElem? (i := 5) rfl, (List.forall_mem_cons.mpr ⟨List.mem_of_getElem? (i := 6) rfl, (List.forall_mem_cons.mpr ⟨List.mem_of_getElem? (i := 7) rfl, (fun _ h => absurd h List.not_mem_nil)⟩)⟩)⟩)⟩)⟩)⟩)⟩) (ih35753 y35792 x35415 y35763 (by omega) (by omega) (by omega) (by omega) (by omega) hF)
                  · skip
                    replace hF := FE.neg hF c35791
                    have b35794l := Int32.le_toInt x35415
                    have b35794h := Int32.toInt_lt x35415
                    obtain ⟨y35795, ey35795⟩ : ∃ y : Int32, y = x35415 + Int32.ofInt 1 := ⟨_, rfl⟩
                    replace hF := FE.lt hF ey35795
                    refine g_iinc (v := y35795) (lv' := [(5, .int y35795), (4, .int y35763), (7, .int y35763), (6, .int x35414), (0, .ref (r 0)), (1, .int z1), (2, .int z2), (3, .int z3)]) hk 3 dX12_lean_124 rfl ey35795.symm (by decide) rfl ?_
                    obtain ⟨y35796, ey35796⟩ : ∃ y : Int32, y = x35414 + Int32.ofInt 1 := ⟨_, rfl⟩
                    replace hF := FE.lt hF ey35796
                    have hy35796 : y35796.toInt = x35414.toInt + 1 := i32_add ey35796 rfl (by decide) (by omega) (by omega)
                    refine g_iinc (v := y35796) (lv' := [(6, .int y35796), (5, .int y35795), (4, .int y35763), (7, .int y35763), (0, .ref (r 0)), (1, .int z1), (2, .int z2), (3, .int z3)]) hk 3 dX12_lean_127 rfl ey35796.symm (by decide) rfl ?_
                    refine g_goto (tgt := 44) hk dX12_lean_130 (by decide) ?_
                    have b35797l := Int32.le_toInt y35795
                    have b35797h := Int32.toInt_lt y35795
                    exact g_lv (List.forall_mem_cons.mpr ⟨List.mem_of_getElem? (i := 0) rfl, (List.forall_mem_cons.mpr ⟨List.mem_of_getElem? (i := 1) rfl, (List.forall_mem_cons.mpr ⟨List.mem_of_getElem? (i := 2) rfl, (List.forall_mem_cons.mpr ⟨List.mem_of_getElem? (i := 4) rfl, (List.forall_mem_cons.mpr ⟨List.mem_of_getElem? (i := 5) rfl, (List.forall_mem_cons.mpr ⟨List.mem_of_getElem? (i := 6) rfl, (List.forall_mem_cons.mpr ⟨List.mem_of_getElem? (i := 7) rfl, (fun _ h => absurd h List.not_mem_nil)⟩)⟩)⟩)⟩)⟩)⟩)⟩) (ih35753 y35796 y35795 y35763 (by omega) (by omega) (by omega) (by omega) (by omega) hF)
            · skip
              replace hF := FE.neg hF c35765
              refine g_iload hk dX12_lean_81 rfl ?_
              refine g_ineg hk dX12_lean_83 ?_
              refine g_topi (fun y35798 ey35798 => ?_)
              replace hF := FE.lt hF ey35798
              refine g_istore (lv' := [(7, .int y35798), (6, .int x35414), (5, .int x35415), (4, .int x35416), (0, .ref (r 0)), (1, .int z1), (2, .int z2), (3, .int z3)]) hk dX12_lean_84 (by decide) rfl ?_
              refine g_iload hk dX12_lean_86 rfl ?_
              refine g_iload hk dX12_lean_88 rfl ?_
              have b35799l := Int32.le_toInt y35798
              have b35799h := Int32.toInt_lt y35798
              have b35800l := Int32.le_toInt x35416
              have b35800h := Int32.toInt_lt x35416
              refine g_icmp_le (tgt := 97) (a := y35798.toInt) (b := x35416.toInt) hk dX12_lean_90 (by decide) rfl rfl (fun c35801 => ?_) (fun c35801 => ?_)
              · skip
                replace hF := FE.pos hF c35801
                refine g_iload hk dX12_lean_97 rfl ?_
                refine g_if_le (tgt := 127) (a := x35414.toInt) hk dX12_lean_99 (by decide) rfl (fun c35802 => ?_) (fun c35802 => ?_)
                · skip
                  replace hF := FE.pos hF c35802
                  obtain ⟨y35803, ey35803⟩ : ∃ y : Int32, y = x35414 + Int32.ofInt 1 := ⟨_, rfl⟩
                  replace hF := FE.lt hF ey35803
                  have hy35803 : y35803.toInt = x35414.toInt + 1 := i32_add ey35803 rfl (by decide) (by omega) (by omega)
                  refine g_iinc (v := y35803) (lv' := [(6, .int y35803), (7, .int y35798), (5, .int x35415), (4, .int x35416), (0, .ref (r 0)), (1, .int z1), (2, .int z2), (3, .int z3)]) hk 1 dX12_lean_127 rfl ey35803.symm (by decide) rfl ?_
                  refine g_goto (tgt := 44) hk dX12_lean_130 (by decide) ?_
                  have b35804l := Int32.le_toInt x35415
                  have b35804h := Int32.toInt_lt x35415
                  exact g_lv (List.forall_mem_cons.mpr ⟨List.mem_of_getElem? (i := 0) rfl, (List.forall_mem_cons.mpr ⟨List.mem_of_getElem? (i := 2) rfl, (List.forall_mem_cons.mpr ⟨List.mem_of_getElem? (i := 3) rfl, (List.forall_mem_cons.mpr ⟨List.mem_of_getElem? (i := 4) rfl, (List.forall_mem_cons.mpr ⟨List.mem_of_getElem? (i := 5) rfl, (List.forall_mem_cons.mpr ⟨List.mem_of_getElem? (i := 6) rfl, (List.forall_mem_cons.mpr ⟨List.mem_of_getElem? (i := 7) rfl, (fun _ h => absurd h List.not_mem_nil)⟩)⟩)⟩)⟩)⟩)⟩)⟩) (ih35753 y35803 x35415 x35416 (by omega) (by omega) (by omega) (by omega) (by omega) hF)
                · skip
                  replace hF := FE.neg hF c35802
                  refine g_aload_n hk dX12_lean_102 rfl ?_
                  refine gM_r0_46 hk hin12 (List.mem_cons_of_mem _ (List.mem_append_left _ (List.mem_of_getElem? (i := 16) rfl))) dX12_lean_103 ?_
                  refine g_iload hk dX12_lean_106 rfl ?_
                  refine g_iconst (v := 1) hk dX12_lean_108 (by decide) ?_
                  refine g_isub hk dX12_lean_109 ?_
                  refine g_topi (fun y35805 ey35805 => ?_)
                  replace hF := FE.lt hF ey35805
                  have hy35805 : y35805.toInt = x35414.toInt - 1 := i32_sub ey35805 rfl rfl (by omega) (by omega)
                  refine lM_23 (v := (A35413 23 y35805.toNatClampNeg)) hk (vp_in_iff.mpr ⟨by omega, by omega⟩) rfl dX12_lean_110 ?_
                  refine g_aload_n hk dX12_lean_111 rfl ?_
                  refine gM_r0_46 hk hin12 (List.mem_cons_of_mem _ (List.mem_append_left _ (List.mem_of_getElem? (i := 16) rfl))) dX12_lean_112 ?_
                  refine g_iload hk dX12_lean_115 rfl ?_
                  refine lM_23 (v := (A35413 23 x35414.toNatClampNeg)) hk (vp_in_iff.mpr ⟨by omega, by omega⟩) rfl dX12_lean_117 ?_
                  have b35806l := Int32.le_toInt (A35413 23 y35805.toNatClampNeg)
                  have b35806h := Int32.toInt_lt (A35413 23 y35805.toNatClampNeg)
                  have b35807l := Int32.le_toInt (A35413 23 x35414.toNatClampNeg)
                  have b35807h := Int32.toInt_lt (A35413 23 x35414.toNatClampNeg)
                  refine g_isub hk dX12_lean_118 ?_
                  refine g_topi (fun y35808 ey35808 => ?_)
                  replace hF := FE.lt hF ey35808
                  have hy35808 := i32_sub0 ey35808
                  refine g_bipush (v := 101) hk dX12_lean_119 (by decide) ?_
                  have b35809l := Int32.le_toInt y35808
                  have b35809h := Int32.toInt_lt y35808
                  refine g_icmp_ne (tgt := 127) (a := y35808.toInt) (b := 101) hk dX12_lean_121 (by decide) rfl rfl (fun c35810 => ?_) (fun c35810 => ?_)
                  · skip
                    replace hF := FE.pos hF c35810
                    obtain ⟨y35811, ey35811⟩ : ∃ y : Int32, y = x35414 + Int32.ofInt 1 := ⟨_, rfl⟩
                    replace hF := FE.lt hF ey35811
                    have hy35811 : y35811.toInt = x35414.toInt + 1 := i32_add ey35811 rfl (by decide) (by omega) (by omega)
                    refine g_iinc (v := y35811) (lv' := [(6, .int y35811), (7, .int y35798), (5, .int x35415), (4, .int x35416), (0, .ref (r 0)), (1, .int z1), (2, .int z2), (3, .int z3)]) hk 1 dX12_lean_127 rfl ey35811.symm (by decide) rfl ?_
                    refine g_goto (tgt := 44) hk dX12_lean_130 (by decide) ?_
                    have b35812l := Int32.le_toInt x35415
                    have b35812h := Int32.toInt_lt x35415
                    exact g_lv (List.forall_mem_cons.mpr ⟨List.mem_of_getElem? (i := 0) rfl, (List.forall_mem_cons.mpr ⟨List.mem_of_getElem? (i := 2) rfl, (List.forall_mem_cons.mpr ⟨List.mem_of_getElem? (i := 3) rfl, (List.forall_mem_cons.mpr ⟨List.mem_of_getElem? (i := 4) rfl, (List.forall_mem_cons.mpr ⟨List.mem_of_getElem? (i := 5) rfl, (List.forall_mem_cons.mpr ⟨List.mem_of_getElem? (i := 6) rfl, (List.forall_mem_cons.mpr ⟨List.mem_of_getElem? (i := 7) rfl, (fun _ h => absurd h List.not_mem_nil)⟩)⟩)⟩)⟩)⟩)⟩)⟩) (ih35753 y35811 x35415 x35416 (by omega) (by omega) (by omega) (by omega) (by omega) hF)
                  · skip
                    replace hF := FE.neg hF c35810
                    have b35813l := Int32.le_toInt x35415
                    have b35813h := Int32.toInt_lt x35415
                    obtain ⟨y35814, ey35814⟩ : ∃ y : Int32, y = x35415 + Int32.ofInt 1 := ⟨_, rfl⟩
                    replace hF := FE.lt hF ey35814
                    refine g_iinc (v := y35814) (lv' := [(5, .int y35814), (7, .int y35798), (6, .int x35414), (4, .int x35416), (0, .ref (r 0)), (1, .int z1), (2, .int z2), (3, .int z3)]) hk 2 dX12_lean_124 rfl ey35814.symm (by decide) rfl ?_
                    obtain ⟨y35815, ey35815⟩ : ∃ y : Int32, y = x35414 + Int32.ofInt 1 := ⟨_, rfl⟩
                    replace hF := FE.lt hF ey35815
                    have hy35815 : y35815.toInt = x35414.toInt + 1 := i32_add ey35815 rfl (by decide) (by omega) (by omega)
                    refine g_iinc (v := y35815) (lv' := [(6, .int y35815), (5, .int y35814), (7, .int y35798), (4, .int x35416), (0, .ref (r 0)), (1, .int z1), (2, .int z2), (3, .int z3)]) hk 2 dX12_lean_127 rfl ey35815.symm (by decide) rfl ?_
                    refine g_goto (tgt := 44) hk dX12_lean_130 (by decide) ?_
                    have b35816l := Int32.le_toInt y35814
                    have b35816h := Int32.toInt_lt y35814
                    exact g_lv (List.forall_mem_cons.mpr ⟨List.mem_of_getElem? (i := 0) rfl, (List.forall_mem_cons.mpr ⟨List.mem_of_getElem? (i := 1) rfl, (List.forall_mem_cons.mpr ⟨List.mem_of_getElem? (i := 3) rfl, (List.forall_mem_cons.mpr ⟨List.mem_of_getElem? (i := 4) rfl, (List.forall_mem_cons.mpr ⟨List.mem_of_getElem? (i := 5) rfl, (List.forall_mem_cons.mpr ⟨List.mem_of_getElem? (i := 6) rfl, (List.forall_mem_cons.mpr ⟨List.mem_of_getElem? (i := 7) rfl, (fun _ h => absurd h List.not_mem_nil)⟩)⟩)⟩)⟩)⟩)⟩)⟩) (ih35753 y35815 y35814 x35416 (by omega) (by omega) (by omega) (by omega) (by omega) hF)
              · skip
                replace hF := FE.neg hF c35801
                refine g_iload hk dX12_lean_93 rfl ?_
                refine g_istore (lv' := [(4, .int y35798), (7, .int y35798), (6, .int x35414), (5, .int x35415), (0, .ref (r 0)), (1, .int z1), (2, .int z2), (3, .int z3)]) hk dX12_lean_95 (by decide) rfl ?_
                refine g_iload hk dX12_lean_97 rfl ?_
                refine g_if_le (tgt := 127) (a := x35414.toInt) hk dX12_lean_99 (by decide) rfl (fun c35817 => ?_) (fun c35817 => ?_)
                · skip
                  replace hF := FE.pos hF c35817
                  obtain ⟨y35818, ey35818⟩ : ∃ y : Int32, y = x35414 + Int32.ofInt 1 := ⟨_, rfl⟩
                  replace hF := FE.lt hF ey35818
                  have hy35818 : y35818.toInt = x35414.toInt + 1 := i32_add ey35818 rfl (by decide) (by omega) (by omega)
                  refine g_iinc (v := y35818) (lv' := [(6, .int y35818), (4, .int y35798), (7, .int y35798), (5, .int x35415), (0, .ref (r 0)), (1, .int z1), (2, .int z2), (3, .int z3)]) hk 2 dX12_lean_127 rfl ey35818.symm (by decide) rfl ?_
                  refine g_goto (tgt := 44) hk dX12_lean_130 (by decide) ?_
                  have b35819l := Int32.le_toInt x35415
                  have b35819h := Int32.toInt_lt x35415
                  exact g_lv (List.forall_mem_cons.mpr ⟨List.mem_of_getElem? (i := 0) rfl, (List.forall_mem_cons.mpr ⟨List.mem_of_getElem? (i := 3) rfl, (List.forall_mem_cons.mpr ⟨List.mem_of_getElem? (i := 1) rfl, (List.forall_mem_cons.mpr ⟨List.mem_of_getElem? (i := 4) rfl, (List.forall_mem_cons.mpr ⟨List.mem_of_getElem? (i := 5) rfl, (List.forall_mem_cons.mpr ⟨List.mem_of_getElem? (i := 6) rfl, (List.forall_mem_cons.mpr ⟨List.mem_of_getElem? (i := 7) rfl, (fun _ h => absurd h List.not_mem_nil)⟩)⟩)⟩)⟩)⟩)⟩)⟩) (ih35753 y35818 x35415 y35798 (by omega) (by omega) (by omega) (by omega) (by omega) hF)
                · skip
                  replace hF := FE.neg hF c35817
                  refine g_aload_n hk dX12_lean_102 rfl ?_
                  refine gM_r0_46 hk hin12 (List.mem_cons_of_mem _ (List.mem_append_left _ (List.mem_of_getElem? (i := 16) rfl))) dX12_lean_103 ?_
                  refine g_iload hk dX12_lean_106 rfl ?_
                  refine g_iconst (v := 1) hk dX12_lean_108 (by decide) ?_
                  refine g_isub hk dX12_lean_109 ?_
                  refine g_topi (fun y35820 ey35820 => ?_)
                  replace hF := FE.lt hF ey35820
                  have hy35820 : y35820.toInt = x35414.toInt - 1 := i32_sub ey35820 rfl rfl (by omega) (by omega)
                  refine lM_23 (v := (A35413 23 y35820.toNatClampNeg)) hk (vp_in_iff.mpr ⟨by omega, by omega⟩) rfl dX12_lean_110 ?_
                  refine g_aload_n hk dX12_lean_111 rfl ?_
                  refine gM_r0_46 hk hin12 (List.mem_cons_of_mem _ (List.mem_append_left _ (List.mem_of_getElem? (i := 16) rfl))) dX12_lean_112 ?_
                  refine g_iload hk dX12_lean_115 rfl ?_
                  refine lM_23 (v := (A35413 23 x35414.toNatClampNeg)) hk (vp_in_iff.mpr ⟨by omega, by omega⟩) rfl dX12_lean_117 ?_
                  have b35821l := Int32.le_toInt (A35413 23 y35820.toNatClampNeg)
                  have b35821h := Int32.toInt_lt (A35413 23 y35820.toNatClampNeg)
                  have b35822l := Int32.le_toInt (A35413 23 x35414.toNatClampNeg)
                  have b35822h := Int32.toInt_lt (A35413 23 x35414.toNatClampNeg)
                  refine g_isub hk dX12_lean_118 ?_
                  refine g_topi (fun y35823 ey35823 => ?_)
                  replace hF := FE.lt hF ey35823
                  have hy35823 := i32_sub0 ey35823
                  refine g_bipush (v := 101) hk dX12_lean_119 (by decide) ?_
                  have b35824l := Int32.le_toInt y35823
                  have b35824h := Int32.toInt_lt y35823
                  refine g_icmp_ne (tgt := 127) (a := y35823.toInt) (b := 101) hk dX12_lean_121 (by decide) rfl rfl (fun c35825 => ?_) (fun c35825 => ?_)
                  · skip
                    replace hF := FE.pos hF c35825
                    obtain ⟨y35826, ey35826⟩ : ∃ y : Int32, y = x35414 + Int32.ofInt 1 := ⟨_, rfl⟩
                    replace hF := FE.lt hF ey35826
                    have hy35826 : y35826.toInt = x35414.toInt + 1 := i32_add ey35826 rfl (by decide) (by omega) (by omega)
                    refine g_iinc (v := y35826) (lv' := [(6, .int y35826), (4, .int y35798), (7, .int y35798), (5, .int x35415), (0, .ref (r 0)), (1, .int z1), (2, .int z2), (3, .int z3)]) hk 2 dX12_lean_127 rfl ey35826.symm (by decide) rfl ?_
                    refine g_goto (tgt := 44) hk dX12_lean_130 (by decide) ?_
                    have b35827l := Int32.le_toInt x35415
                    have b35827h := Int32.toInt_lt x35415
                    exact g_lv (List.forall_mem_cons.mpr ⟨List.mem_of_getElem? (i := 0) rfl, (List.forall_mem_cons.mpr ⟨List.mem_of_getElem? (i := 3) rfl, (List.forall_mem_cons.mpr ⟨List.mem_of_getElem? (i := 1) rfl, (List.forall_mem_cons.mpr ⟨List.mem_of_getElem? (i := 4) rfl, (List.forall_mem_cons.mpr ⟨List.mem_of_getElem? (i := 5) rfl, (List.forall_mem_cons.mpr ⟨List.mem_of_getElem? (i := 6) rfl, (List.forall_mem_cons.mpr ⟨List.mem_of_getElem? (i := 7) rfl, (fun _ h => absurd h List.not_mem_nil)⟩)⟩)⟩)⟩)⟩)⟩)⟩) (ih35753 y35826 x35415 y35798 (by omega) (by omega) (by omega) (by omega) (by omega) hF)
                  · skip
                    replace hF := FE.neg hF c35825
                    have b35828l := Int32.le_toInt x35415
                    have b35828h := Int32.toInt_lt x35415
                    obtain ⟨y35829, ey35829⟩ : ∃ y : Int32, y = x35415 + Int32.ofInt 1 := ⟨_, rfl⟩
                    replace hF := FE.lt hF ey35829
                    refine g_iinc (v := y35829) (lv' := [(5, .int y35829), (4, .int y35798), (7, .int y35798), (6, .int x35414), (0, .ref (r 0)), (1, .int z1), (2, .int z2), (3, .int z3)]) hk 3 dX12_lean_124 rfl ey35829.symm (by decide) rfl ?_
                    obtain ⟨y35830, ey35830⟩ : ∃ y : Int32, y = x35414 + Int32.ofInt 1 := ⟨_, rfl⟩
                    replace hF := FE.lt hF ey35830
                    have hy35830 : y35830.toInt = x35414.toInt + 1 := i32_add ey35830 rfl (by decide) (by omega) (by omega)
                    refine g_iinc (v := y35830) (lv' := [(6, .int y35830), (5, .int y35829), (4, .int y35798), (7, .int y35798), (0, .ref (r 0)), (1, .int z1), (2, .int z2), (3, .int z3)]) hk 3 dX12_lean_127 rfl ey35830.symm (by decide) rfl ?_
                    refine g_goto (tgt := 44) hk dX12_lean_130 (by decide) ?_
                    have b35831l := Int32.le_toInt y35829
                    have b35831h := Int32.toInt_lt y35829
                    exact g_lv (List.forall_mem_cons.mpr ⟨List.mem_of_getElem? (i := 0) rfl, (List.forall_mem_cons.mpr ⟨List.mem_of_getElem? (i := 1) rfl, (List.forall_mem_cons.mpr ⟨List.mem_of_getElem? (i := 2) rfl, (List.forall_mem_cons.mpr ⟨List.mem_of_getElem? (i := 4) rfl, (List.forall_mem_cons.mpr ⟨List.mem_of_getElem? (i := 5) rfl, (List.forall_mem_cons.mpr ⟨List.mem_of_getElem? (i := 6) rfl, (List.forall_mem_cons.mpr ⟨List.mem_of_getElem? (i := 7) rfl, (fun _ h => absurd h List.not_mem_nil)⟩)⟩)⟩)⟩)⟩)⟩)⟩) (ih35753 y35830 y35829 y35798 (by omega) (by omega) (by omega) (by omega) (by omega) hF)
      have b35833 := Int32.le_toInt (0 : Int32)
      have b35834 := Int32.toInt_lt (0 : Int32)
      have n35832a : 41 - (0 : Int32).toInt < (FU : Int) := by have := FU_eq; omega
      have n35832b : 0 < FU := by have := FU_eq; omega
      exact lp35749 FU 0 0 0 (by omega) (by omega) (by omega) n35832a n35832b hF
noncomputable def bM12_whose_34 (I : Nat → Int32) (A : Nat → Nat → Int32) (z2 : Int32) (z1 : Int32) : (Int32 → Int32 → Int32 → (Nat → Int32) → (Nat → Nat → Int32) → (Nat → Nat → Int64) → (Int32 × (Nat → Int32) × (Nat → Nat → Int32) × (Nat → Nat → Int64))) → Int32 → Int32 → Int32 → (Nat → Int32) → (Nat → Nat → Int32) → (Nat → Nat → Int64) → (Int32 × (Nat → Int32) × (Nat → Nat → Int32) × (Nat → Nat → Int64)) := fun kk36037 x35858 x35859 x35860 I35864 A35864 L35864 => if (I 15).toInt = 0 then if (A 10 0).toInt ≤ x35858.toInt then (x35860, I35864, A35864, L35864) else if (A 11 (5 * (I 15) + x35858).toNatClampNeg).toInt = z2.toInt then f_bdM (fM12_distanceOf I35864 A35864 L35864 x35858 z1) fun y36045 I36046 A36046 L36046 => if x35860.toInt < 0 then f_lt (x35858 + Int32.ofInt 1) fun y36050 => kk36037 y36050 y36045 x35858 I36046 A36046 L36046 else if y36045.toInt < x35859.toInt then f_lt (x35858 + Int32.ofInt 1) fun y36055 => kk36037 y36055 y36045 x35858 I36046 A36046 L36046 else f_lt (x35858 + Int32.ofInt 1) fun y36056 => kk36037 y36056 x35859 x35860 I36046 A36046 L36046 else f_lt (x35858 + Int32.ofInt 1) fun y36057 => kk36037 y36057 x35859 x35860 I35864 A35864 L35864 else if (I 15).toInt = 1 then if (A 10 1).toInt ≤ x35858.toInt then (x35860, I35864, A35864, L35864) else if (A 11 (5 * (I 15) + x35858).toNatClampNeg).toInt = z2.toInt then f_bdM (fM12_distanceOf I35864 A35864 L35864 x35858 z1) fun y36064 I36065 A36065 L36065 => if x35860.toInt < 0 then f_lt (x35858 + Int32.ofInt 1) fun y36069 => kk36037 y36069 y36064 x35858 I36065 A36065 L36065 else if y36064.toInt < x35859.toInt then f_lt (x35858 + Int32.ofInt 1) fun y36074 => kk36037 y36074 y36064 x35858 I36065 A36065 L36065 else f_lt (x35858 + Int32.ofInt 1) fun y36075 => kk36037 y36075 x35859 x35860 I36065 A36065 L36065 else f_lt (x35858 + Int32.ofInt 1) fun y36076 => kk36037 y36076 x35859 x35860 I35864 A35864 L35864 else dfM
noncomputable def fM12_whose (I : Nat → Int32) (A : Nat → Nat → Int32) (L : Nat → Nat → Int64) (z1 : Int32) (z2 : Int32) : Int32 × (Nat → Int32) × (Nat → Nat → Int32) × (Nat → Nat → Int64) := if fM12_in I A L z2 2 16 = 0 then ((-1), I, A, L) else if fM12_isWindow I A L z1 z2 = 0 then ((-1), I, A, L) else f_bdM (fM12_copies I A L) fun _ I35853 A35853 L35853 => itr_iiiIAL dfM (bM12_whose_34 I A z2 z1) FU 0 0 (-2) I35853 A35853 L35853
def wo_j205_X12_whose : List Cond := [Cond.methodLink RX12 244 yX12_in, Cond.static yX12_in, Cond.initialized RX12, Cond.methodLink RX12 257 yX12_isWindow, Cond.instanceMethod yX12_isWindow, Cond.selects RX12 yX12_isWindow yX12_isWindow, Cond.methodLink RX12 323 yX12_copies, Cond.instanceMethod yX12_copies, Cond.selects RX12 yX12_copies yX12_copies, Cond.fieldLink RX12 49 "WarpDeskModel" "queries" "[I", Cond.fieldLink RX12 197 "WarpDeskModel" "live" "I", Cond.methodLink RX12 254 yX12_wideOf, Cond.instanceMethod yX12_wideOf, Cond.selects RX12 yX12_wideOf yX12_wideOf, Cond.methodLink RX12 345 yX12_distanceOf, Cond.instanceMethod yX12_distanceOf, Cond.selects RX12 yX12_distanceOf yX12_distanceOf]
def wz_j205_X12_whose : List Cond := .code yX12_whose cX12_whose 7 (some .int) :: (wo_j205_X12_whose ++ (wsX120 ++ (wz_j145_X12_in ++ (wz_j160_X12_isWindow ++ (wz_j151_X12_copies ++ (wz_j148_X12_wideOf ++ (wz_j169_X12_distanceOf ++ ([] : List Cond))))))))
theorem zg_j205_X12_whose : ∀ w ∈ wz_j205_X12_whose, goodWord w = true := zg_cons rfl (zg_app (by decide +kernel) (zg_app zgU_wsX120 (zg_app zg_j145_X12_in (zg_app zg_j160_X12_isWindow (zg_app zg_j151_X12_copies (zg_app zg_j148_X12_wideOf (zg_app zg_j169_X12_distanceOf zg_nil)))))))
theorem zi_j205_X12_whose : ∀ w ∈ wz_j205_X12_whose, w ∈ lw_tbl := zi_cons zw_1914 (zi_app (zi_cons zw_1656 (zi_cons zw_1657 (zi_cons zw_115 (zi_cons zw_1714 (zi_cons zw_1716 (zi_cons zw_72 (zi_cons zw_1679 (zi_cons zw_1681 (zi_cons zw_70 (zi_cons zw_1406 (zi_cons zw_1400 (zi_cons zw_1667 (zi_cons zw_1669 (zi_cons zw_68 (zi_cons zw_1759 (zi_cons zw_1761 (zi_cons zw_79 zi_nil))))))))))))))))) (zi_app inX12 (zi_app zi_j145_X12_in (zi_app zi_j160_X12_isWindow (zi_app zi_j151_X12_copies (zi_app zi_j148_X12_wideOf (zi_app zi_j169_X12_distanceOf zi_nil)))))))
set_option maxHeartbeats 4000000 in
set_option maxRecDepth 100000 in
theorem j205_X12_whose (l : Launch) (D : va_G) (zt : Nat × Nat × Nat × (Nat → Nat) × (Nat → Nat)) (r : Nat → Nat) (g : Nat → ClassId) (I : Nat → Int32) (A : Nat → Nat → Int32) (L : Nat → Nat → Int64) (z1 : Int32) (z2 : Int32) (hIv : IvM I A) : GM l D zt (tyM g) yX12_whose wz_j205_X12_whose ({ frames := 6, cells := 0, slots := 0, locals := 134 } : Room) [.ref (r 0), .int z1, .int z2] (wM r g I A L) (fun v _ w' => ∃ (I' : Nat → Int32) (A' : Nat → Nat → Int32) (L' : Nat → Nat → Int64), Md [18, 19, 20] I I' ∧ Md [18, 19, 20, 21] A A' ∧ IvM I' A' ∧ ∃ y0 : Int32, (L' = L) ∧ ((-2) ≤ y0.toInt) ∧ (y0.toInt ≤ 4) ∧ FE (fM12_whose I A L z1 z2) (y0, I', A', L') ∧ v = some (.int y0) ∧ w' = wM r g I' A' L') 0 0 := by
  refine GM.of (cc := cX12_whose) (maxL := 7) (ret := (some .int)) (own := RX12) (lv := [(0, .ref (r 0)), (1, .int z1), (2, .int z2)]) (by decide) rfl rfl (Nat.le_of_ble_eq_true rfl) rfl (fun κ sz hk hR hN => ?_)
  have hin12 : ∀ w ∈ u_ws RX12 TX12 55, w ∈ wz_j205_X12_whose := fun w h => (List.mem_cons_of_mem _ (List.mem_append_right _ (List.mem_append_left _ h)))
  have hF : FE (fM12_whose I A L z1 z2) (fM12_whose I A L z1 z2) := FE.rf
  refine g_iload_n hk dX12_whose_0 rfl ?_
  refine g_iconst (v := 2) hk dX12_whose_1 (by decide) ?_
  refine g_bipush (v := 16) hk dX12_whose_2 (by decide) ?_
  have k35835 : (2 : Int32).toInt = 2 := rfl
  have k35836 : (16 : Int32).toInt = 16 := rfl
  refine g_callS (n := 3) hk (j145_X12_in l D zt r g I A L z2 2 16 hIv) (SP.same _) (fun _ h => h) (gi_S (List.mem_cons_of_mem _ (List.mem_append_left _ (List.mem_of_getElem? (i := 0) rfl))) (List.mem_cons_of_mem _ (List.mem_append_left _ (List.mem_of_getElem? (i := 1) rfl))) (List.mem_cons_of_mem _ (List.mem_append_left _ (List.mem_of_getElem? (i := 2) rfl))) (gi_sub (fun w h => (List.mem_cons_of_mem _ (List.mem_append_right _ (List.mem_append_right _ (List.mem_append_left _ h))))) zg_j145_X12_in)) rfl rfl rfl (by decide +kernel) ⟨Nat.le_of_ble_eq_true rfl, Nat.le_of_ble_eq_true rfl⟩ rfl rfl (Nat.le_of_ble_eq_true rfl) ⟨Nat.le_of_ble_eq_true rfl, Nat.le_of_ble_eq_true rfl⟩ dX12_whose_4 (fun v ty' w' hp hk' => ?_)
  rcases hp with ⟨c35837, hC, rfl, rfl⟩ | ⟨c35839, c35840, hC, rfl, rfl⟩
  · skip
    replace hF := FE.pos hF hC
    have b35842l := Int32.le_toInt z2
    have b35842h := Int32.toInt_lt z2
    show GW κ 7 0 0 (wM r g I A L) 7 [(0, .ref (r 0)), (1, .int z1), (2, .int z2)] [.int 0]
    refine g_if_eq (tgt := 19) (a := 0) hk dX12_whose_7 (by decide) rfl (fun _ => ?_) (fun z9 => absurd (show (0 : Int) = (0 : Int) from by decide) z9)
    refine g_iconst (v := (-1)) hk dX12_whose_19 (by decide) ?_
    exact g_iret hk hR rfl ⟨I, A, L, (show Md [18, 19, 20] I I from Md.rf), (show Md [18, 19, 20, 21] A A from Md.rf), hIv, (-1), (show L = L from rfl), (by decide), (by decide), hF, rfl, rfl⟩ dX12_whose_20
  · skip
    replace hF := FE.neg hF (fe_ne hC (by decide))
    show GW κ 7 0 0 (wM r g I A L) 7 [(0, .ref (r 0)), (1, .int z1), (2, .int z2)] [.int 1]
    refine g_if_eq (tgt := 19) (a := 1) hk dX12_whose_7 (by decide) rfl (fun z9 => absurd z9 (show ¬ ((1 : Int) = (0 : Int)) from by decide)) (fun _ => ?_)
    refine g_aload_n hk dX12_whose_10 rfl ?_
    refine g_iload_n hk dX12_whose_11 rfl ?_
    refine g_iload_n hk dX12_whose_12 rfl ?_
    refine g_callV (n := 2) hk (j160_X12_isWindow l D zt r g I A L z1 z2 hIv) (SP.same _) (fun _ h => h) (gi_V (List.mem_cons_of_mem _ (List.mem_append_left _ (List.mem_of_getElem? (i := 3) rfl))) (List.mem_cons_of_mem _ (List.mem_append_left _ (List.mem_of_getElem? (i := 4) rfl))) (List.mem_cons_of_mem _ (List.mem_append_left _ (List.mem_of_getElem? (i := 5) rfl))) (List.mem_cons_of_mem _ (List.mem_append_left _ (List.mem_of_getElem? (i := 2) rfl))) (gi_sub (fun w h => (List.mem_cons_of_mem _ (List.mem_append_right _ (List.mem_append_right _ (List.mem_append_right _ (List.mem_append_left _ h)))))) zg_j160_X12_isWindow)) rfl rfl rfl (by decide +kernel) ⟨Nat.le_of_ble_eq_true rfl, Nat.le_of_ble_eq_true rfl⟩ 0 rfl rfl rfl rfl (Nat.le_of_ble_eq_true rfl) ⟨Nat.le_of_ble_eq_true rfl, Nat.le_of_ble_eq_true rfl⟩ dX12_whose_13 (fun v ty' w' hp hk' => ?_)
    rcases hp with ⟨hC, rfl, rfl⟩ | ⟨c35844, c35845, c35846, c35847, c35848, c35849, c35850, hC, rfl, rfl⟩
    · skip
      replace hF := FE.pos hF hC
      show GW κ 7 0 0 (wM r g I A L) 16 [(0, .ref (r 0)), (1, .int z1), (2, .int z2)] [.int 0]
      refine g_if_ne (tgt := 21) (a := 0) hk dX12_whose_16 (by decide) rfl (fun z9 => absurd z9 (show ¬ ((0 : Int) ≠ (0 : Int)) from by decide)) (fun _ => ?_)
      refine g_iconst (v := (-1)) hk dX12_whose_19 (by decide) ?_
      exact g_iret hk hR rfl ⟨I, A, L, (show Md [18, 19, 20] I I from Md.rf), (show Md [18, 19, 20, 21] A A from Md.rf), hIv, (-1), (show L = L from rfl), (by decide), (by decide), hF, rfl, rfl⟩ dX12_whose_20
    · skip
      replace hF := FE.neg hF (fe_ne hC (by decide))
      show GW κ 7 0 0 (wM r g I A L) 16 [(0, .ref (r 0)), (1, .int z1), (2, .int z2)] [.int 1]
      refine g_if_ne (tgt := 21) (a := 1) hk dX12_whose_16 (by decide) rfl (fun _ => ?_) (fun z9 => absurd (show (1 : Int) ≠ (0 : Int) from by decide) z9)
      refine g_aload_n hk dX12_whose_21 rfl ?_
      refine g_callV (n := 0) hk (j151_X12_copies l D zt r g I A L  hIv) (SP.same _) (fun _ h => h) (gi_V (List.mem_cons_of_mem _ (List.mem_append_left _ (List.mem_of_getElem? (i := 6) rfl))) (List.mem_cons_of_mem _ (List.mem_append_left _ (List.mem_of_getElem? (i := 7) rfl))) (List.mem_cons_of_mem _ (List.mem_append_left _ (List.mem_of_getElem? (i := 8) rfl))) (List.mem_cons_of_mem _ (List.mem_append_left _ (List.mem_of_getElem? (i := 2) rfl))) (gi_sub (fun w h => (List.mem_cons_of_mem _ (List.mem_append_right _ (List.mem_append_right _ (List.mem_append_right _ (List.mem_append_right _ (List.mem_append_left _ h))))))) zg_j151_X12_copies)) rfl rfl rfl (by decide +kernel) ⟨Nat.le_of_ble_eq_true rfl, Nat.le_of_ble_eq_true rfl⟩ 0 rfl rfl rfl rfl (Nat.le_of_ble_eq_true rfl) ⟨Nat.le_of_ble_eq_true rfl, Nat.le_of_ble_eq_true rfl⟩ dX12_whose_22 (fun v ty' w' hp hk' => ?_)
      obtain ⟨I35853, A35853, L35853, hI35853, hA35853, hV35853, r35854, r35855, hL35853, hC, rfl, rfl⟩ := hp
      replace hF := FE.bdM hF hC
      have f35856 := IvM_s17_0 hIv
      have f35857 := IvM_s17_164 hIv
      show GW κ 7 0 0 (wM r g I35853 A35853 L35853) 25 [(0, .ref (r 0)), (1, .int z1), (2, .int z2)] []
      refine g_bipush (v := (-2)) hk dX12_whose_25 (by decide) ?_
      refine g_istore_n (lv' := [(3, .int (-2)), (0, .ref (r 0)), (1, .int z1), (2, .int z2)]) hk dX12_whose_27 (by decide) rfl ?_
      refine g_iconst (v := 0) hk dX12_whose_28 (by decide) ?_
      refine g_istore (lv' := [(4, .int 0), (3, .int (-2)), (0, .ref (r 0)), (1, .int z1), (2, .int z2)]) hk dX12_whose_29 (by decide) rfl ?_
      refine g_iconst (v := 0) hk dX12_whose_31 (by decide) ?_
      refine g_istore (lv' := [(5, .int 0), (4, .int 0), (3, .int (-2)), (0, .ref (r 0)), (1, .int z1), (2, .int z2)]) hk dX12_whose_32 (by decide) rfl ?_
      have lp36034 : ∀ (n36035 : Nat) (x35858 : Int32) (x35859 : Int32) (x35860 : Int32) (I35864 : Nat → Int32) (A35864 : Nat → Nat → Int32) (L35864 : Nat → Nat → Int64), (Md [18, 19, 20] I35853 I35864) → (Md [19, 20, 21] A35853 A35864) → (IvM I35864 A35864) → (L35864 = L35853) → (0 ≤ x35858.toInt) → (x35858.toInt ≤ 5) → ((-2) ≤ x35860.toInt) → (x35860.toInt ≤ 4) → (6 - x35858.toInt < (n36035 : Int)) → (0 < n36035) → (FE (fM12_whose I A L z1 z2) (itr_iiiIAL dfM (bM12_whose_34 I A z2 z1) n36035 x35858 x35859 x35860 I35864 A35864 L35864)) → GW κ 7 0 0 (wM r g I35864 A35864 L35864) 34 [(5, .int x35858), (4, .int x35859), (3, .int x35860), (0, .ref (r 0)), (1, .int z1), (2, .int z2)] [] := by
        intro n36035
        induction n36035 with
        | zero =>
          intro x35858 x35859 x35860 I35864 A35864 L35864 hI35864 hA35864 hV35864 hL35864 h36030 h36031 h36032 h36033 m36036 m36036z hF
          exact absurd m36036z (Nat.lt_irrefl 0)
        | succ n36035 ih36038 =>
          intro x35858 x35859 x35860 I35864 A35864 L35864 hI35864 hA35864 hV35864 hL35864 h36030 h36031 h36032 h36033 m36036 m36036z hF
          replace hF := FE.itr_iiiIAL hF
          refine g_iload hk dX12_whose_34 rfl ?_
          refine g_aload_n hk dX12_whose_36 rfl ?_
          refine gM_r0_28 hk hin12 (List.mem_cons_of_mem _ (List.mem_append_left _ (List.mem_of_getElem? (i := 9) rfl))) dX12_whose_37 ?_
          refine g_aload_n hk dX12_whose_40 rfl ?_
          refine gM_i15 (v := (I 15)) hk hin12 (List.mem_cons_of_mem _ (List.mem_append_left _ (List.mem_of_getElem? (i := 10) rfl))) dX12_whose_41 ((hI35864 15 rfl).trans (hI35853 15 rfl)) ?_
          have f36039 := IvM_f15 hIv
          by_cases c36040 : (I 15).toInt = 0
          · have ec36040 : (I 15) = 0 := Int32.toInt_inj.mp c36040
            replace hF := FE.pos hF c36040
            rw [ec36040]
            show GW κ 7 0 0 (wM r g I35864 A35864 L35864) 44 [(5, .int x35858), (4, .int x35859), (3, .int x35860), (0, .ref (r 0)), (1, .int z1), (2, .int z2)] [.int 0, .ref (r 11), .int x35858]
            refine lM_10 (v := (A 10 0)) hk (vp_in_iff.mpr ⟨by decide, by decide⟩) ((congrFun (hA35864 10 rfl) _).trans (congrFun (hA35853 10 rfl) _)) dX12_whose_44 ?_
            have f36041 := IvM_s10_0 hIv
            refine g_icmp_ge (tgt := 97) (a := x35858.toInt) (b := (A 10 0).toInt) hk dX12_whose_45 (by decide) rfl rfl (fun c36042 => ?_) (fun c36042 => ?_)
            · skip
              replace hF := FE.pos hF c36042
              refine g_iload_n hk dX12_whose_97 rfl ?_
              exact g_iret hk hR rfl ⟨I35864, A35864, L35864, (show Md [18, 19, 20] I I35864 from (Md.tr (Md.tr Md.rf hI35853 rfl) hI35864 rfl)), (show Md [18, 19, 20, 21] A A35864 from (Md.tr (Md.tr Md.rf hA35853 rfl) hA35864 rfl)), hV35864, x35860, (show L35864 = L from (hL35864.trans hL35853)), (by omega), (by omega), hF, rfl, rfl⟩ dX12_whose_98
            · skip
              replace hF := FE.neg hF c36042
              refine g_aload_n hk dX12_whose_48 rfl ?_
              refine g_iload hk dX12_whose_49 rfl ?_
              refine g_callV (n := 1) hk (j148_X12_wideOf l D zt r g I35864 A35864 L35864 x35858 hV35864 (by omega) (by omega)) (SP.same _) (fun _ h => h) (gi_V (List.mem_cons_of_mem _ (List.mem_append_left _ (List.mem_of_getElem? (i := 11) rfl))) (List.mem_cons_of_mem _ (List.mem_append_left _ (List.mem_of_getElem? (i := 12) rfl))) (List.mem_cons_of_mem _ (List.mem_append_left _ (List.mem_of_getElem? (i := 13) rfl))) (List.mem_cons_of_mem _ (List.mem_append_left _ (List.mem_of_getElem? (i := 2) rfl))) (gi_sub (fun w h => (List.mem_cons_of_mem _ (List.mem_append_right _ (List.mem_append_right _ (List.mem_append_right _ (List.mem_append_right _ (List.mem_append_right _ (List.mem_append_left _ h)))))))) zg_j148_X12_wideOf)) rfl rfl rfl (by decide +kernel) ⟨Nat.le_of_ble_eq_true rfl, Nat.le_of_ble_eq_true rfl⟩ 0 rfl rfl rfl rfl (Nat.le_of_ble_eq_true rfl) ⟨Nat.le_of_ble_eq_true rfl, Nat.le_of_ble_eq_true rfl⟩ dX12_whose_51 (fun v ty' w' hp hk' => ?_)
              obtain ⟨rfl, rfl⟩ := hp
              show GW κ 7 0 0 (wM r g I35864 A35864 L35864) 54 [(5, .int x35858), (4, .int x35859), (3, .int x35860), (0, .ref (r 0)), (1, .int z1), (2, .int z2)] [.int (A35864 11 (5 * (I35864 15) + x35858).toNatClampNeg)]
              refine g_norm (v := (A 11 (5 * (I 15) + x35858).toNatClampNeg)) (by rw [show I35864 15 = (I 15) from ((hI35864 15 rfl).trans (hI35853 15 rfl))]; exact ((congrFun (hA35864 11 rfl) _).trans (congrFun (hA35853 11 rfl) _))) ?_
              have f36043 : 0 ≤ (A 11 (5 * (I 15) + x35858).toNatClampNeg).toInt ∧ (A 11 (5 * (I 15) + x35858).toNatClampNeg).toInt ≤ 16 := IvM_a11 hIv _
              refine g_iload_n hk dX12_whose_54 rfl ?_
              refine g_icmp_eq (tgt := 61) (a := (A 11 (5 * (I 15) + x35858).toNatClampNeg).toInt) (b := z2.toInt) hk dX12_whose_55 (by decide) rfl rfl (fun c36044 => ?_) (fun c36044 => ?_)
              · skip
                replace hF := FE.pos hF c36044
                refine g_aload_n hk dX12_whose_61 rfl ?_
                refine g_iload hk dX12_whose_62 rfl ?_
                refine g_iload_n hk dX12_whose_64 rfl ?_
                refine g_callV (n := 2) hk (j169_X12_distanceOf l D zt r g I35864 A35864 L35864 x35858 z1 hV35864 (by omega) (by omega) (by omega) (by omega) (by first | (rw [show (A35864 11 (5 * (I35864 15) + x35858).toNatClampNeg) = (A 11 (5 * (I 15) + x35858).toNatClampNeg) from (by rw [show I35864 15 = (I 15) from ((hI35864 15 rfl).trans (hI35853 15 rfl))]; exact ((congrFun (hA35864 11 rfl) _).trans (congrFun (hA35853 11 rfl) _)))] <;> omega) | omega) (by first | (rw [show (A35864 11 (5 * (I35864 15) + x35858).toNatClampNeg) = (A 11 (5 * (I 15) + x35858).toNatClampNeg) from (by rw [show I35864 15 = (I 15) from ((hI35864 15 rfl).trans (hI35853 15 rfl))]; exact ((congrFun (hA35864 11 rfl) _).trans (congrFun (hA35853 11 rfl) _)))] <;> omega) | omega)) (SP.same _) (fun _ h => h) (gi_V (List.mem_cons_of_mem _ (List.mem_append_left _ (List.mem_of_getElem? (i := 14) rfl))) (List.mem_cons_of_mem _ (List.mem_append_left _ (List.mem_of_getElem? (i := 15) rfl))) (List.mem_cons_of_mem _ (List.mem_append_left _ (List.mem_of_getElem? (i := 16) rfl))) (List.mem_cons_of_mem _ (List.mem_append_left _ (List.mem_of_getElem? (i := 2) rfl))) (gi_sub (fun w h => (List.mem_cons_of_mem _ (List.mem_append_right _ (List.mem_append_right _ (List.mem_append_right _ (List.mem_append_right _ (List.mem_append_right _ (List.mem_append_right _ (List.mem_append_left _ h))))))))) zg_j169_X12_distanceOf)) rfl rfl rfl (by decide +kernel) ⟨Nat.le_of_ble_eq_true rfl, Nat.le_of_ble_eq_true rfl⟩ 0 rfl rfl rfl rfl (Nat.le_of_ble_eq_true rfl) ⟨Nat.le_of_ble_eq_true rfl, Nat.le_of_ble_eq_true rfl⟩ dX12_whose_65 (fun v ty' w' hp hk' => ?_)
                obtain ⟨I36046, A36046, L36046, hI36046, hA36046, hV36046, y36045, r36047, hL36046, hC, rfl, rfl⟩ := hp
                replace hF := FE.bdM hF hC
                have f36048 := IvM_f18 hV36046
                show GW κ 7 0 0 (wM r g I36046 A36046 L36046) 68 [(5, .int x35858), (4, .int x35859), (3, .int x35860), (0, .ref (r 0)), (1, .int z1), (2, .int z2)] [.int y36045]
                refine g_istore (lv' := [(6, .int y36045), (5, .int x35858), (4, .int x35859), (3, .int x35860), (0, .ref (r 0)), (1, .int z1), (2, .int z2)]) hk dX12_whose_68 (by decide) rfl ?_
                refine g_iload_n hk dX12_whose_70 rfl ?_
                refine g_if_lt (tgt := 84) (a := x35860.toInt) hk dX12_whose_71 (by decide) rfl (fun c36049 => ?_) (fun c36049 => ?_)
                · skip
                  replace hF := FE.pos hF c36049
                  refine g_iload hk dX12_whose_84 rfl ?_
                  refine g_istore_n (lv' := [(3, .int x35858), (6, .int y36045), (5, .int x35858), (4, .int x35859), (0, .ref (r 0)), (1, .int z1), (2, .int z2)]) hk dX12_whose_86 (by decide) rfl ?_
                  refine g_iload hk dX12_whose_87 rfl ?_
                  refine g_istore (lv' := [(4, .int y36045), (3, .int x35858), (6, .int y36045), (5, .int x35858), (0, .ref (r 0)), (1, .int z1), (2, .int z2)]) hk dX12_whose_89 (by decide) rfl ?_
                  obtain ⟨y36050, ey36050⟩ : ∃ y : Int32, y = x35858 + Int32.ofInt 1 := ⟨_, rfl⟩
                  replace hF := FE.lt hF ey36050
                  have hy36050 : y36050.toInt = x35858.toInt + 1 := i32_add ey36050 rfl (by decide) (by omega) (by omega)
                  refine g_iinc (v := y36050) (lv' := [(5, .int y36050), (4, .int y36045), (3, .int x35858), (6, .int y36045), (0, .ref (r 0)), (1, .int z1), (2, .int z2)]) hk 3 dX12_whose_91 rfl ey36050.symm (by decide) rfl ?_
                  refine g_goto (tgt := 34) hk dX12_whose_94 (by decide) ?_
                  have b36051l := Int32.le_toInt y36045
                  have b36051h := Int32.toInt_lt y36045
                  exact g_lv (List.forall_mem_cons.mpr ⟨List.mem_of_getElem? (i := 0) rfl, (List.forall_mem_cons.mpr ⟨List.mem_of_getElem? (i := 1) rfl, (List.forall_mem_cons.mpr ⟨List.mem_of_getElem? (i := 2) rfl, (List.forall_mem_cons.mpr ⟨List.mem_of_getElem? (i := 4) rfl, (List.forall_mem_cons.mpr ⟨List.mem_of_getElem? (i := 5) rfl, (List.forall_mem_cons.mpr ⟨List.mem_of_getElem? (i := 6) rfl, (fun _ h => absurd h List.not_mem_nil)⟩)⟩)⟩)⟩)⟩)⟩) (ih36038 y36050 y36045 x35858 I36046 A36046 L36046 (show Md [18, 19, 20] I35853 I36046 from Md.tr hI35864 (show Md [18, 19, 20] I35864 I36046 from (Md.tr Md.rf hI36046 rfl)) rfl) (show Md [19, 20, 21] A35853 A36046 from Md.tr hA35864 (show Md [19, 20, 21] A35864 A36046 from (Md.tr Md.rf hA36046 rfl)) rfl) hV36046 (show L36046 = L35853 from (hL36046.trans hL35864)) (by omega) (by omega) (by omega) (by omega) (by omega) (by omega) hF)
                · skip
                  replace hF := FE.neg hF c36049
                  refine g_iload hk dX12_whose_74 rfl ?_
                  refine g_iload hk dX12_whose_76 rfl ?_
                  have b36052l := Int32.le_toInt y36045
                  have b36052h := Int32.toInt_lt y36045
                  have b36053l := Int32.le_toInt x35859
                  have b36053h := Int32.toInt_lt x35859
                  refine g_icmp_lt (tgt := 84) (a := y36045.toInt) (b := x35859.toInt) hk dX12_whose_78 (by decide) rfl rfl (fun c36054 => ?_) (fun c36054 => ?_)
                  · skip
                    replace hF := FE.pos hF c36054
                    refine g_iload hk dX12_whose_84 rfl ?_
                    refine g_istore_n (lv' := [(3, .int x35858), (6, .int y36045), (5, .int x35858), (4, .int x35859), (0, .ref (r 0)), (1, .int z1), (2, .int z2)]) hk dX12_whose_86 (by decide) rfl ?_
                    refine g_iload hk dX12_whose_87 rfl ?_
                    refine g_istore (lv' := [(4, .int y36045), (3, .int x35858), (6, .int y36045), (5, .int x35858), (0, .ref (r 0)), (1, .int z1), (2, .int z2)]) hk dX12_whose_89 (by decide) rfl ?_
                    obtain ⟨y36055, ey36055⟩ : ∃ y : Int32, y = x35858 + Int32.ofInt 1 := ⟨_, rfl⟩
                    replace hF := FE.lt hF ey36055
                    have hy36055 : y36055.toInt = x35858.toInt + 1 := i32_add ey36055 rfl (by decide) (by omega) (by omega)
                    refine g_iinc (v := y36055) (lv' := [(5, .int y36055), (4, .int y36045), (3, .int x35858), (6, .int y36045), (0, .ref (r 0)), (1, .int z1), (2, .int z2)]) hk 3 dX12_whose_91 rfl ey36055.symm (by decide) rfl ?_
                    refine g_goto (tgt := 34) hk dX12_whose_94 (by decide) ?_
                    exact g_lv (List.forall_mem_cons.mpr ⟨List.mem_of_getElem? (i := 0) rfl, (List.forall_mem_cons.mpr ⟨List.mem_of_getElem? (i := 1) rfl, (List.forall_mem_cons.mpr ⟨List.mem_of_getElem? (i := 2) rfl, (List.forall_mem_cons.mpr ⟨List.mem_of_getElem? (i := 4) rfl, (List.forall_mem_cons.mpr ⟨List.mem_of_getElem? (i := 5) rfl, (List.forall_mem_cons.mpr ⟨List.mem_of_getElem? (i := 6) rfl, (fun _ h => absurd h List.not_mem_nil)⟩)⟩)⟩)⟩)⟩)⟩) (ih36038 y36055 y36045 x35858 I36046 A36046 L36046 (show Md [18, 19, 20] I35853 I36046 from Md.tr hI35864 (show Md [18, 19, 20] I35864 I36046 from (Md.tr Md.rf hI36046 rfl)) rfl) (show Md [19, 20, 21] A35853 A36046 from Md.tr hA35864 (show Md [19, 20, 21] A35864 A36046 from (Md.tr Md.rf hA36046 rfl)) rfl) hV36046 (show L36046 = L35853 from (hL36046.trans hL35864)) (by omega) (by omega) (by omega) (by omega) (by omega) (by omega) hF)
                  · skip
                    replace hF := FE.neg hF c36054
                    refine g_goto (tgt := 91) hk dX12_whose_81 (by decide) ?_
                    obtain ⟨y36056, ey36056⟩ : ∃ y : Int32, y = x35858 + Int32.ofInt 1 := ⟨_, rfl⟩
                    replace hF := FE.lt hF ey36056
                    have hy36056 : y36056.toInt = x35858.toInt + 1 := i32_add ey36056 rfl (by decide) (by omega) (by omega)
                    refine g_iinc (v := y36056) (lv' := [(5, .int y36056), (6, .int y36045), (4, .int x35859), (3, .int x35860), (0, .ref (r 0)), (1, .int z1), (2, .int z2)]) hk 1 dX12_whose_91 rfl ey36056.symm (by decide) rfl ?_
                    refine g_goto (tgt := 34) hk dX12_whose_94 (by decide) ?_
                    exact g_lv (List.forall_mem_cons.mpr ⟨List.mem_of_getElem? (i := 0) rfl, (List.forall_mem_cons.mpr ⟨List.mem_of_getElem? (i := 2) rfl, (List.forall_mem_cons.mpr ⟨List.mem_of_getElem? (i := 3) rfl, (List.forall_mem_cons.mpr ⟨List.mem_of_getElem? (i := 4) rfl, (List.forall_mem_cons.mpr ⟨List.mem_of_getElem? (i := 5) rfl, (List.forall_mem_cons.mpr ⟨List.mem_of_getElem? (i := 6) rfl, (fun _ h => absurd h List.not_mem_nil)⟩)⟩)⟩)⟩)⟩)⟩) (ih36038 y36056 x35859 x35860 I36046 A36046 L36046 (show Md [18, 19, 20] I35853 I36046 from Md.tr hI35864 (show Md [18, 19, 20] I35864 I36046 from (Md.tr Md.rf hI36046 rfl)) rfl) (show Md [19, 20, 21] A35853 A36046 from Md.tr hA35864 (show Md [19, 20, 21] A35864 A36046 from (Md.tr Md.rf hA36046 rfl)) rfl) hV36046 (show L36046 = L35853 from (hL36046.trans hL35864)) (by omega) (by omega) (by omega) (by omega) (by omega) (by omega) hF)
              · skip
                replace hF := FE.neg hF c36044
                refine g_goto (tgt := 91) hk dX12_whose_58 (by decide) ?_
                obtain ⟨y36057, ey36057⟩ : ∃ y : Int32, y = x35858 + Int32.ofInt 1 := ⟨_, rfl⟩
                replace hF := FE.lt hF ey36057
                have hy36057 : y36057.toInt = x35858.toInt + 1 := i32_add ey36057 rfl (by decide) (by omega) (by omega)
                refine g_iinc (v := y36057) (lv' := [(5, .int y36057), (4, .int x35859), (3, .int x35860), (0, .ref (r 0)), (1, .int z1), (2, .int z2)]) hk 0 dX12_whose_91 rfl ey36057.symm (by decide) rfl ?_
                refine g_goto (tgt := 34) hk dX12_whose_94 (by decide) ?_
                have b36058l := Int32.le_toInt x35859
                have b36058h := Int32.toInt_lt x35859
                exact g_lv (List.forall_mem_cons.mpr ⟨List.mem_of_getElem? (i := 0) rfl, (List.forall_mem_cons.mpr ⟨List.mem_of_getElem? (i := 1) rfl, (List.forall_mem_cons.mpr ⟨List.mem_of_getElem? (i := 2) rfl, (List.forall_mem_cons.mpr ⟨List.mem_of_getElem? (i := 3) rfl, (List.forall_mem_cons.mpr ⟨List.mem_of_getElem? (i := 4) rfl, (List.forall_mem_cons.mpr ⟨List.mem_of_getElem? (i := 5) rfl, (fun _ h => absurd h List.not_mem_nil)⟩)⟩)⟩)⟩)⟩)⟩) (ih36038 y36057 x35859 x35860 I35864 A35864 L35864 (show Md [18, 19, 20] I35853 I35864 from Md.tr hI35864 (show Md [18, 19, 20] I35864 I35864 from Md.rf) rfl) (show Md [19, 20, 21] A35853 A35864 from Md.tr hA35864 (show Md [19, 20, 21] A35864 A35864 from Md.rf) rfl) hV35864 (show L35864 = L35853 from hL35864) (by omega) (by omega) (by omega) (by omega) (by omega) (by omega) hF)
          replace hF := FE.neg hF c36040
          by_cases c36059 : (I 15).toInt = 1
          · have ec36059 : (I 15) = 1 := Int32.toInt_inj.mp c36059
            replace hF := FE.pos hF c36059
            rw [ec36059]
            show GW κ 7 0 0 (wM r g I35864 A35864 L35864) 44 [(5, .int x35858), (4, .int x35859), (3, .int x35860), (0, .ref (r 0)), (1, .int z1), (2, .int z2)] [.int 1, .ref (r 11), .int x35858]
            refine lM_10 (v := (A 10 1)) hk (vp_in_iff.mpr ⟨by decide, by decide⟩) ((congrFun (hA35864 10 rfl) _).trans (congrFun (hA35853 10 rfl) _)) dX12_whose_44 ?_
            have f36060 := IvM_s10_1 hIv
            refine g_icmp_ge (tgt := 97) (a := x35858.toInt) (b := (A 10 1).toInt) hk dX12_whose_45 (by decide) rfl rfl (fun c36061 => ?_) (fun c36061 => ?_)
            · skip
              replace hF := FE.pos hF c36061
              refine g_iload_n hk dX12_whose_97 rfl ?_
              exact g_iret hk hR rfl ⟨I35864, A35864, L35864, (show Md [18, 19, 20] I I35864 from (Md.tr (Md.tr Md.rf hI35853 rfl) hI35864 rfl)), (show Md [18, 19, 20, 21] A A35864 from (Md.tr (Md.tr Md.rf hA35853 rfl) hA35864 rfl)), hV35864, x35860, (show L35864 = L from (hL35864.trans hL35853)), (by omega), (by omega), hF, rfl, rfl⟩ dX12_whose_98
            · skip
              replace hF := FE.neg hF c36061
              refine g_aload_n hk dX12_whose_48 rfl ?_
              refine g_iload hk dX12_whose_49 rfl ?_
              refine g_callV (n := 1) hk (j148_X12_wideOf l D zt r g I35864 A35864 L35864 x35858 hV35864 (by omega) (by omega)) (SP.same _) (fun _ h => h) (gi_V (List.mem_cons_of_mem _ (List.mem_append_left _ (List.mem_of_getElem? (i := 11) rfl))) (List.mem_cons_of_mem _ (List.mem_append_left _ (List.mem_of_getElem? (i := 12) rfl))) (List.mem_cons_of_mem _ (List.mem_append_left _ (List.mem_of_getElem? (i := 13) rfl))) (List.mem_cons_of_mem _ (List.mem_append_left _ (List.mem_of_getElem? (i := 2) rfl))) (gi_sub (fun w h => (List.mem_cons_of_mem _ (List.mem_append_right _ (List.mem_append_right _ (List.mem_append_right _ (List.mem_append_right _ (List.mem_append_right _ (List.mem_append_left _ h)))))))) zg_j148_X12_wideOf)) rfl rfl rfl (by decide +kernel) ⟨Nat.le_of_ble_eq_true rfl, Nat.le_of_ble_eq_true rfl⟩ 0 rfl rfl rfl rfl (Nat.le_of_ble_eq_true rfl) ⟨Nat.le_of_ble_eq_true rfl, Nat.le_of_ble_eq_true rfl⟩ dX12_whose_51 (fun v ty' w' hp hk' => ?_)
              obtain ⟨rfl, rfl⟩ := hp
              show GW κ 7 0 0 (wM r g I35864 A35864 L35864) 54 [(5, .int x35858), (4, .int x35859), (3, .int x35860), (0, .ref (r 0)), (1, .int z1), (2, .int z2)] [.int (A35864 11 (5 * (I35864 15) + x35858).toNatClampNeg)]
              refine g_norm (v := (A 11 (5 * (I 15) + x35858).toNatClampNeg)) (by rw [show I35864 15 = (I 15) from ((hI35864 15 rfl).trans (hI35853 15 rfl))]; exact ((congrFun (hA35864 11 rfl) _).trans (congrFun (hA35853 11 rfl) _))) ?_
              have f36062 : 0 ≤ (A 11 (5 * (I 15) + x35858).toNatClampNeg).toInt ∧ (A 11 (5 * (I 15) + x35858).toNatClampNeg).toInt ≤ 16 := IvM_a11 hIv _
              refine g_iload_n hk dX12_whose_54 rfl ?_
              refine g_icmp_eq (tgt := 61) (a := (A 11 (5 * (I 15) + x35858).toNatClampNeg).toInt) (b := z2.toInt) hk dX12_whose_55 (by decide) rfl rfl (fun c36063 => ?_) (fun c36063 => ?_)
              · skip
                replace hF := FE.pos hF c36063
                refine g_aload_n hk dX12_whose_61 rfl ?_
                refine g_iload hk dX12_whose_62 rfl ?_
                refine g_iload_n hk dX12_whose_64 rfl ?_
                refine g_callV (n := 2) hk (j169_X12_distanceOf l D zt r g I35864 A35864 L35864 x35858 z1 hV35864 (by omega) (by omega) (by omega) (by omega) (by first | (rw [show (A35864 11 (5 * (I35864 15) + x35858).toNatClampNeg) = (A 11 (5 * (I 15) + x35858).toNatClampNeg) from (by rw [show I35864 15 = (I 15) from ((hI35864 15 rfl).trans (hI35853 15 rfl))]; exact ((congrFun (hA35864 11 rfl) _).trans (congrFun (hA35853 11 rfl) _)))] <;> omega) | omega) (by first | (rw [show (A35864 11 (5 * (I35864 15) + x35858).toNatClampNeg) = (A 11 (5 * (I 15) + x35858).toNatClampNeg) from (by rw [show I35864 15 = (I 15) from ((hI35864 15 rfl).trans (hI35853 15 rfl))]; exact ((congrFun (hA35864 11 rfl) _).trans (congrFun (hA35853 11 rfl) _)))] <;> omega) | omega)) (SP.same _) (fun _ h => h) (gi_V (List.mem_cons_of_mem _ (List.mem_append_left _ (List.mem_of_getElem? (i := 14) rfl))) (List.mem_cons_of_mem _ (List.mem_append_left _ (List.mem_of_getElem? (i := 15) rfl))) (List.mem_cons_of_mem _ (List.mem_append_left _ (List.mem_of_getElem? (i := 16) rfl))) (List.mem_cons_of_mem _ (List.mem_append_left _ (List.mem_of_getElem? (i := 2) rfl))) (gi_sub (fun w h => (List.mem_cons_of_mem _ (List.mem_append_right _ (List.mem_append_right _ (List.mem_append_right _ (List.mem_append_right _ (List.mem_append_right _ (List.mem_append_right _ (List.mem_append_left _ h))))))))) zg_j169_X12_distanceOf)) rfl rfl rfl (by decide +kernel) ⟨Nat.le_of_ble_eq_true rfl, Nat.le_of_ble_eq_true rfl⟩ 0 rfl rfl rfl rfl (Nat.le_of_ble_eq_true rfl) ⟨Nat.le_of_ble_eq_true rfl, Nat.le_of_ble_eq_true rfl⟩ dX12_whose_65 (fun v ty' w' hp hk' => ?_)
                obtain ⟨I36065, A36065, L36065, hI36065, hA36065, hV36065, y36064, r36066, hL36065, hC, rfl, rfl⟩ := hp
                replace hF := FE.bdM hF hC
                have f36067 := IvM_f18 hV36065
                show GW κ 7 0 0 (wM r g I36065 A36065 L36065) 68 [(5, .int x35858), (4, .int x35859), (3, .int x35860), (0, .ref (r 0)), (1, .int z1), (2, .int z2)] [.int y36064]
                refine g_istore (lv' := [(6, .int y36064), (5, .int x35858), (4, .int x35859), (3, .int x35860), (0, .ref (r 0)), (1, .int z1), (2, .int z2)]) hk dX12_whose_68 (by decide) rfl ?_
                refine g_iload_n hk dX12_whose_70 rfl ?_
                refine g_if_lt (tgt := 84) (a := x35860.toInt) hk dX12_whose_71 (by decide) rfl (fun c36068 => ?_) (fun c36068 => ?_)
                · skip
                  replace hF := FE.pos hF c36068
                  refine g_iload hk dX12_whose_84 rfl ?_
                  refine g_istore_n (lv' := [(3, .int x35858), (6, .int y36064), (5, .int x35858), (4, .int x35859), (0, .ref (r 0)), (1, .int z1), (2, .int z2)]) hk dX12_whose_86 (by decide) rfl ?_
                  refine g_iload hk dX12_whose_87 rfl ?_
                  refine g_istore (lv' := [(4, .int y36064), (3, .int x35858), (6, .int y36064), (5, .int x35858), (0, .ref (r 0)), (1, .int z1), (2, .int z2)]) hk dX12_whose_89 (by decide) rfl ?_
                  obtain ⟨y36069, ey36069⟩ : ∃ y : Int32, y = x35858 + Int32.ofInt 1 := ⟨_, rfl⟩
                  replace hF := FE.lt hF ey36069
                  have hy36069 : y36069.toInt = x35858.toInt + 1 := i32_add ey36069 rfl (by decide) (by omega) (by omega)
                  refine g_iinc (v := y36069) (lv' := [(5, .int y36069), (4, .int y36064), (3, .int x35858), (6, .int y36064), (0, .ref (r 0)), (1, .int z1), (2, .int z2)]) hk 3 dX12_whose_91 rfl ey36069.symm (by decide) rfl ?_
                  refine g_goto (tgt := 34) hk dX12_whose_94 (by decide) ?_
                  have b36070l := Int32.le_toInt y36064
                  have b36070h := Int32.toInt_lt y36064
                  exact g_lv (List.forall_mem_cons.mpr ⟨List.mem_of_getElem? (i := 0) rfl, (List.forall_mem_cons.mpr ⟨List.mem_of_getElem? (i := 1) rfl, (List.forall_mem_cons.mpr ⟨List.mem_of_getElem? (i := 2) rfl, (List.forall_mem_cons.mpr ⟨List.mem_of_getElem? (i := 4) rfl, (List.forall_mem_cons.mpr ⟨List.mem_of_getElem? (i := 5) rfl, (List.forall_mem_cons.mpr ⟨List.mem_of_getElem? (i := 6) rfl, (fun _ h => absurd h List.not_mem_nil)⟩)⟩)⟩)⟩)⟩)⟩) (ih36038 y36069 y36064 x35858 I36065 A36065 L36065 (show Md [18, 19, 20] I35853 I36065 from Md.tr hI35864 (show Md [18, 19, 20] I35864 I36065 from (Md.tr Md.rf hI36065 rfl)) rfl) (show Md [19, 20, 21] A35853 A36065 from Md.tr hA35864 (show Md [19, 20, 21] A35864 A36065 from (Md.tr Md.rf hA36065 rfl)) rfl) hV36065 (show L36065 = L35853 from (hL36065.trans hL35864)) (by omega) (by omega) (by omega) (by omega) (by omega) (by omega) hF)
                · skip
                  replace hF := FE.neg hF c36068
                  refine g_iload hk dX12_whose_74 rfl ?_
                  refine g_iload hk dX12_whose_76 rfl ?_
                  have b36071l := Int32.le_toInt y36064
                  have b36071h := Int32.toInt_lt y36064
                  have b36072l := Int32.le_toInt x35859
                  have b36072h := Int32.toInt_lt x35859
                  refine g_icmp_lt (tgt := 84) (a := y36064.toInt) (b := x35859.toInt) hk dX12_whose_78 (by decide) rfl rfl (fun c36073 => ?_) (fun c36073 => ?_)
                  · skip
                    replace hF := FE.pos hF c36073
                    refine g_iload hk dX12_whose_84 rfl ?_
                    refine g_istore_n (lv' := [(3, .int x35858), (6, .int y36064), (5, .int x35858), (4, .int x35859), (0, .ref (r 0)), (1, .int z1), (2, .int z2)]) hk dX12_whose_86 (by decide) rfl ?_
                    refine g_iload hk dX12_whose_87 rfl ?_
                    refine g_istore (lv' := [(4, .int y36064), (3, .int x35858), (6, .int y36064), (5, .int x35858), (0, .ref (r 0)), (1, .int z1), (2, .int z2)]) hk dX12_whose_89 (by decide) rfl ?_
                    obtain ⟨y36074, ey36074⟩ : ∃ y : Int32, y = x35858 + Int32.ofInt 1 := ⟨_, rfl⟩
                    replace hF := FE.lt hF ey36074
                    have hy36074 : y36074.toInt = x35858.toInt + 1 := i32_add ey36074 rfl (by decide) (by omega) (by omega)
                    refine g_iinc (v := y36074) (lv' := [(5, .int y36074), (4, .int y36064), (3, .int x35858), (6, .int y36064), (0, .ref (r 0)), (1, .int z1), (2, .int z2)]) hk 3 dX12_whose_91 rfl ey36074.symm (by decide) rfl ?_
                    refine g_goto (tgt := 34) hk dX12_whose_94 (by decide) ?_
                    exact g_lv (List.forall_mem_cons.mpr ⟨List.mem_of_getElem? (i := 0) rfl, (List.forall_mem_cons.mpr ⟨List.mem_of_getElem? (i := 1) rfl, (List.forall_mem_cons.mpr ⟨List.mem_of_getElem? (i := 2) rfl, (List.forall_mem_cons.mpr ⟨List.mem_of_getElem? (i := 4) rfl, (List.forall_mem_cons.mpr ⟨List.mem_of_getElem? (i := 5) rfl, (List.forall_mem_cons.mpr ⟨List.mem_of_getElem? (i := 6) rfl, (fun _ h => absurd h List.not_mem_nil)⟩)⟩)⟩)⟩)⟩)⟩) (ih36038 y36074 y36064 x35858 I36065 A36065 L36065 (show Md [18, 19, 20] I35853 I36065 from Md.tr hI35864 (show Md [18, 19, 20] I35864 I36065 from (Md.tr Md.rf hI36065 rfl)) rfl) (show Md [19, 20, 21] A35853 A36065 from Md.tr hA35864 (show Md [19, 20, 21] A35864 A36065 from (Md.tr Md.rf hA36065 rfl)) rfl) hV36065 (show L36065 = L35853 from (hL36065.trans hL35864)) (by omega) (by omega) (by omega) (by omega) (by omega) (by omega) hF)
                  · skip
                    replace hF := FE.neg hF c36073
                    refine g_goto (tgt := 91) hk dX12_whose_81 (by decide) ?_
                    obtain ⟨y36075, ey36075⟩ : ∃ y : Int32, y = x35858 + Int32.ofInt 1 := ⟨_, rfl⟩
                    replace hF := FE.lt hF ey36075
                    have hy36075 : y36075.toInt = x35858.toInt + 1 := i32_add ey36075 rfl (by decide) (by omega) (by omega)
                    refine g_iinc (v := y36075) (lv' := [(5, .int y36075), (6, .int y36064), (4, .int x35859), (3, .int x35860), (0, .ref (r 0)), (1, .int z1), (2, .int z2)]) hk 1 dX12_whose_91 rfl ey36075.symm (by decide) rfl ?_
                    refine g_goto (tgt := 34) hk dX12_whose_94 (by decide) ?_
                    exact g_lv (List.forall_mem_cons.mpr ⟨List.mem_of_getElem? (i := 0) rfl, (List.forall_mem_cons.mpr ⟨List.mem_of_getElem? (i := 2) rfl, (List.forall_mem_cons.mpr ⟨List.mem_of_getElem? (i := 3) rfl, (List.forall_mem_cons.mpr ⟨List.mem_of_getElem? (i := 4) rfl, (List.forall_mem_cons.mpr ⟨List.mem_of_getElem? (i := 5) rfl, (List.forall_mem_cons.mpr ⟨List.mem_of_getElem? (i := 6) rfl, (fun _ h => absurd h List.not_mem_nil)⟩)⟩)⟩)⟩)⟩)⟩) (ih36038 y36075 x35859 x35860 I36065 A36065 L36065 (show Md [18, 19, 20] I35853 I36065 from Md.tr hI35864 (show Md [18, 19, 20] I35864 I36065 from (Md.tr Md.rf hI36065 rfl)) rfl) (show Md [19, 20, 21] A35853 A36065 from Md.tr hA35864 (show Md [19, 20, 21] A35864 A36065 from (Md.tr Md.rf hA36065 rfl)) rfl) hV36065 (show L36065 = L35853 from (hL36065.trans hL35864)) (by omega) (by omega) (by omega) (by omega) (by omega) (by omega) hF)
              · skip
                replace hF := FE.neg hF c36063
                refine g_goto (tgt := 91) hk dX12_whose_58 (by decide) ?_
                obtain ⟨y36076, ey36076⟩ : ∃ y : Int32, y = x35858 + Int32.ofInt 1 := ⟨_, rfl⟩
                replace hF := FE.lt hF ey36076
                have hy36076 : y36076.toInt = x35858.toInt + 1 := i32_add ey36076 rfl (by decide) (by omega) (by omega)
                refine g_iinc (v := y36076) (lv' := [(5, .int y36076), (4, .int x35859), (3, .int x35860), (0, .ref (r 0)), (1, .int z1), (2, .int z2)]) hk 0 dX12_whose_91 rfl ey36076.symm (by decide) rfl ?_
                refine g_goto (tgt := 34) hk dX12_whose_94 (by decide) ?_
                have b36077l := Int32.le_toInt x35859
                have b36077h := Int32.toInt_lt x35859
                exact g_lv (List.forall_mem_cons.mpr ⟨List.mem_of_getElem? (i := 0) rfl, (List.forall_mem_cons.mpr ⟨List.mem_of_getElem? (i := 1) rfl, (List.forall_mem_cons.mpr ⟨List.mem_of_getElem? (i := 2) rfl, (List.forall_mem_cons.mpr ⟨List.mem_of_getElem? (i := 3) rfl, (List.forall_mem_cons.mpr ⟨List.mem_of_getElem? (i := 4) rfl, (List.forall_mem_cons.mpr ⟨List.mem_of_getElem? (i := 5) rfl, (fun _ h => absurd h List.not_mem_nil)⟩)⟩)⟩)⟩)⟩)⟩) (ih36038 y36076 x35859 x35860 I35864 A35864 L35864 (show Md [18, 19, 20] I35853 I35864 from Md.tr hI35864 (show Md [18, 19, 20] I35864 I35864 from Md.rf) rfl) (show Md [19, 20, 21] A35853 A35864 from Md.tr hA35864 (show Md [19, 20, 21] A35864 A35864 from Md.rf) rfl) hV35864 (show L35864 = L35853 from hL35864) (by omega) (by omega) (by omega) (by omega) (by omega) (by omega) hF)
          replace hF := FE.neg hF c36059
          exfalso; omega
      have k36078 : (0 : Int32).toInt = 0 := rfl
      have k36079 : ((-2) : Int32).toInt = (-2) := rfl
      have b36081 := Int32.le_toInt (0 : Int32)
      have b36082 := Int32.toInt_lt (0 : Int32)
      have n36080a : 6 - (0 : Int32).toInt < (FU : Int) := by have := FU_eq; omega
      have n36080b : 0 < FU := by have := FU_eq; omega
      exact lp36034 FU 0 0 (-2) I35853 A35853 L35853 Md.rf Md.rf hV35853 rfl (by omega) (by omega) (by omega) (by omega) n36080a n36080b hF
noncomputable def bM12_rankOf_4 (I : Nat → Int32) (A : Nat → Nat → Int32) (L : Nat → Nat → Int64) (z1 : Int32) : (Int32 → Int32 → (Int32)) → Int32 → Int32 → (Int32) := fun kk36180 x36101 x36102 => if 160 ≤ x36101.toInt then x36102 else if (A 24 x36101.toNatClampNeg).toInt < 0 then f_lt (x36101 + Int32.ofInt 1) fun y36186 => kk36180 y36186 x36102 else if (A 24 x36101.toNatClampNeg).toInt < (A 24 z1.toNatClampNeg).toInt then f_lt (x36102 + Int32.ofInt 1) fun y36191 => f_lt (x36101 + Int32.ofInt 1) fun y36192 => kk36180 y36192 y36191 else if (A 24 x36101.toNatClampNeg).toInt ≠ (A 24 z1.toNatClampNeg).toInt then f_lt (x36101 + Int32.ofInt 1) fun y36195 => kk36180 y36195 x36102 else if z1.toInt ≤ x36101.toInt then f_lt (x36101 + Int32.ofInt 1) fun y36198 => kk36180 y36198 x36102 else f_lt (x36102 + Int32.ofInt 1) fun y36201 => f_lt (x36101 + Int32.ofInt 1) fun y36202 => kk36180 y36202 y36201
noncomputable def fM12_rankOf (I : Nat → Int32) (A : Nat → Nat → Int32) (L : Nat → Nat → Int64) (z1 : Int32) : Int32 := itr_ii (0 : Int32) (bM12_rankOf_4 I A L z1) FU 0 0
def wz_j207_X12_rankOf : List Cond := .code yX12_rankOf cX12_rankOf 4 (some .int) :: (wo_j187_X12_bestWindow ++ (wsX120 ++ ([] : List Cond)))
theorem zg_j207_X12_rankOf : ∀ w ∈ wz_j207_X12_rankOf, goodWord w = true := zg_cons rfl (zg_app (by decide +kernel) (zg_app zgU_wsX120 zg_nil))
theorem zi_j207_X12_rankOf : ∀ w ∈ wz_j207_X12_rankOf, w ∈ lw_tbl := zi_cons zw_1891 (zi_app (zi_cons zw_1426 zi_nil) (zi_app inX12 zi_nil))
set_option maxHeartbeats 4000000 in
set_option maxRecDepth 100000 in
theorem j207_X12_rankOf (l : Launch) (D : va_G) (zt : Nat × Nat × Nat × (Nat → Nat) × (Nat → Nat)) (r : Nat → Nat) (g : Nat → ClassId) (I : Nat → Int32) (A : Nat → Nat → Int32) (L : Nat → Nat → Int64) (z1 : Int32) (hIv : IvM I A) (hp0 : 0 ≤ z1.toInt) (hp1 : z1.toInt ≤ 159) : GM l D zt (tyM g) yX12_rankOf wz_j207_X12_rankOf ({ frames := 0, cells := 0, slots := 0, locals := 0 } : Room) [.ref (r 0), .int z1] (wM r g I A L) (fun v _ w' => ∃ y0 : Int32, FE (fM12_rankOf I A L z1) y0 ∧ v = some (.int y0) ∧ w' = wM r g I A L) 0 0 := by
  refine GM.of (cc := cX12_rankOf) (maxL := 4) (ret := (some .int)) (own := RX12) (lv := [(0, .ref (r 0)), (1, .int z1)]) (by decide) rfl rfl (Nat.le_of_ble_eq_true rfl) rfl (fun κ sz hk hR hN => ?_)
  have hin12 : ∀ w ∈ u_ws RX12 TX12 55, w ∈ wz_j207_X12_rankOf := fun w h => (List.mem_cons_of_mem _ (List.mem_append_right _ (List.mem_append_left _ h)))
  have hF : FE (fM12_rankOf I A L z1) (fM12_rankOf I A L z1) := FE.rf
  refine g_iconst (v := 0) hk dX12_rankOf_0 (by decide) ?_
  refine g_istore_n (lv' := [(2, .int 0), (0, .ref (r 0)), (1, .int z1)]) hk dX12_rankOf_1 (by decide) rfl ?_
  refine g_iconst (v := 0) hk dX12_rankOf_2 (by decide) ?_
  refine g_istore_n (lv' := [(3, .int 0), (2, .int 0), (0, .ref (r 0)), (1, .int z1)]) hk dX12_rankOf_3 (by decide) rfl ?_
  have lp36177 : ∀ (n36178 : Nat) (x36101 : Int32) (x36102 : Int32), (0 ≤ x36101.toInt) → (x36101.toInt ≤ 160) → (161 - x36101.toInt < (n36178 : Int)) → (0 < n36178) → (FE (fM12_rankOf I A L z1) (itr_ii (0 : Int32) (bM12_rankOf_4 I A L z1) n36178 x36101 x36102)) → GW κ 4 0 0 (wM r g I A L) 4 [(3, .int x36101), (2, .int x36102), (0, .ref (r 0)), (1, .int z1)] [] := by
    intro n36178
    induction n36178 with
    | zero =>
      intro x36101 x36102 h36175 h36176 m36179 m36179z hF
      exact absurd m36179z (Nat.lt_irrefl 0)
    | succ n36178 ih36181 =>
      intro x36101 x36102 h36175 h36176 m36179 m36179z hF
      replace hF := FE.itr_ii hF
      refine g_iload_n hk dX12_rankOf_4 rfl ?_
      refine g_sipush (v := 160) hk dX12_rankOf_5 (by decide) ?_
      refine g_icmp_ge (tgt := 64) (a := x36101.toInt) (b := 160) hk dX12_rankOf_8 (by decide) rfl rfl (fun c36182 => ?_) (fun c36182 => ?_)
      · skip
        replace hF := FE.pos hF c36182
        refine g_iload_n hk dX12_rankOf_64 rfl ?_
        have b36183l := Int32.le_toInt x36102
        have b36183h := Int32.toInt_lt x36102
        exact g_iret hk hR rfl ⟨x36102, hF, rfl, rfl⟩ dX12_rankOf_65
      · skip
        replace hF := FE.neg hF c36182
        refine g_aload_n hk dX12_rankOf_11 rfl ?_
        refine gM_r0_48 hk hin12 (List.mem_cons_of_mem _ (List.mem_append_left _ (List.mem_of_getElem? (i := 0) rfl))) dX12_rankOf_12 ?_
        refine g_iload_n hk dX12_rankOf_15 rfl ?_
        refine lM_24 (v := (A 24 x36101.toNatClampNeg)) hk (vp_in_iff.mpr ⟨by omega, by omega⟩) rfl dX12_rankOf_16 ?_
        have b36184l := Int32.le_toInt (A 24 x36101.toNatClampNeg)
        have b36184h := Int32.toInt_lt (A 24 x36101.toNatClampNeg)
        refine g_if_lt (tgt := 58) (a := (A 24 x36101.toNatClampNeg).toInt) hk dX12_rankOf_17 (by decide) rfl (fun c36185 => ?_) (fun c36185 => ?_)
        · skip
          replace hF := FE.pos hF c36185
          obtain ⟨y36186, ey36186⟩ : ∃ y : Int32, y = x36101 + Int32.ofInt 1 := ⟨_, rfl⟩
          replace hF := FE.lt hF ey36186
          have hy36186 : y36186.toInt = x36101.toInt + 1 := i32_add ey36186 rfl (by decide) (by omega) (by omega)
          refine g_iinc (v := y36186) (lv' := [(3, .int y36186), (2, .int x36102), (0, .ref (r 0)), (1, .int z1)]) hk 0 dX12_rankOf_58 rfl ey36186.symm (by decide) rfl ?_
          refine g_goto (tgt := 4) hk dX12_rankOf_61 (by decide) ?_
          have b36187l := Int32.le_toInt x36102
          have b36187h := Int32.toInt_lt x36102
          exact g_lv (List.forall_mem_cons.mpr ⟨List.mem_of_getElem? (i := 0) rfl, (List.forall_mem_cons.mpr ⟨List.mem_of_getElem? (i := 1) rfl, (List.forall_mem_cons.mpr ⟨List.mem_of_getElem? (i := 2) rfl, (List.forall_mem_cons.mpr ⟨List.mem_of_getElem? (i := 3) rfl, (fun _ h => absurd h List.not_mem_nil)⟩)⟩)⟩)⟩) (ih36181 y36186 x36102 (by omega) (by omega) (by omega) (by omega) hF)
        · skip
          replace hF := FE.neg hF c36185
          refine g_aload_n hk dX12_rankOf_20 rfl ?_
          refine gM_r0_48 hk hin12 (List.mem_cons_of_mem _ (List.mem_append_left _ (List.mem_of_getElem? (i := 0) rfl))) dX12_rankOf_21 ?_
          refine g_iload_n hk dX12_rankOf_24 rfl ?_
          refine lM_24 (v := (A 24 x36101.toNatClampNeg)) hk (vp_in_iff.mpr ⟨by omega, by omega⟩) rfl dX12_rankOf_25 ?_
          refine g_aload_n hk dX12_rankOf_26 rfl ?_
          refine gM_r0_48 hk hin12 (List.mem_cons_of_mem _ (List.mem_append_left _ (List.mem_of_getElem? (i := 0) rfl))) dX12_rankOf_27 ?_
          refine g_iload_n hk dX12_rankOf_30 rfl ?_
          refine lM_24 (v := (A 24 z1.toNatClampNeg)) hk (vp_in_iff.mpr ⟨by omega, by omega⟩) rfl dX12_rankOf_31 ?_
          have b36188l := Int32.le_toInt (A 24 z1.toNatClampNeg)
          have b36188h := Int32.toInt_lt (A 24 z1.toNatClampNeg)
          refine g_icmp_lt (tgt := 55) (a := (A 24 x36101.toNatClampNeg).toInt) (b := (A 24 z1.toNatClampNeg).toInt) hk dX12_rankOf_32 (by decide) rfl rfl (fun c36189 => ?_) (fun c36189 => ?_)
          · skip
            replace hF := FE.pos hF c36189
            have b36190l := Int32.le_toInt x36102
            have b36190h := Int32.toInt_lt x36102
            obtain ⟨y36191, ey36191⟩ : ∃ y : Int32, y = x36102 + Int32.ofInt 1 := ⟨_, rfl⟩
            replace hF := FE.lt hF ey36191
            refine g_iinc (v := y36191) (lv' := [(2, .int y36191), (3, .int x36101), (0, .ref (r 0)), (1, .int z1)]) hk 1 dX12_rankOf_55 rfl ey36191.symm (by decide) rfl ?_
            obtain ⟨y36192, ey36192⟩ : ∃ y : Int32, y = x36101 + Int32.ofInt 1 := ⟨_, rfl⟩
            replace hF := FE.lt hF ey36192
            have hy36192 : y36192.toInt = x36101.toInt + 1 := i32_add ey36192 rfl (by decide) (by omega) (by omega)
            refine g_iinc (v := y36192) (lv' := [(3, .int y36192), (2, .int y36191), (0, .ref (r 0)), (1, .int z1)]) hk 1 dX12_rankOf_58 rfl ey36192.symm (by decide) rfl ?_
            refine g_goto (tgt := 4) hk dX12_rankOf_61 (by decide) ?_
            have b36193l := Int32.le_toInt y36191
            have b36193h := Int32.toInt_lt y36191
            exact g_lv (List.forall_mem_cons.mpr ⟨List.mem_of_getElem? (i := 0) rfl, (List.forall_mem_cons.mpr ⟨List.mem_of_getElem? (i := 1) rfl, (List.forall_mem_cons.mpr ⟨List.mem_of_getElem? (i := 2) rfl, (List.forall_mem_cons.mpr ⟨List.mem_of_getElem? (i := 3) rfl, (fun _ h => absurd h List.not_mem_nil)⟩)⟩)⟩)⟩) (ih36181 y36192 y36191 (by omega) (by omega) (by omega) (by omega) hF)
          · skip
            replace hF := FE.neg hF c36189
            refine g_aload_n hk dX12_rankOf_35 rfl ?_
            refine gM_r0_48 hk hin12 (List.mem_cons_of_mem _ (List.mem_append_left _ (List.mem_of_getElem? (i := 0) rfl))) dX12_rankOf_36 ?_
            refine g_iload_n hk dX12_rankOf_39 rfl ?_
            refine lM_24 (v := (A 24 x36101.toNatClampNeg)) hk (vp_in_iff.mpr ⟨by omega, by omega⟩) rfl dX12_rankOf_40 ?_
            refine g_aload_n hk dX12_rankOf_41 rfl ?_
            refine gM_r0_48 hk hin12 (List.mem_cons_of_mem _ (List.mem_append_left _ (List.mem_of_getElem? (i := 0) rfl))) dX12_rankOf_42 ?_
            refine g_iload_n hk dX12_rankOf_45 rfl ?_
            refine lM_24 (v := (A 24 z1.toNatClampNeg)) hk (vp_in_iff.mpr ⟨by omega, by omega⟩) rfl dX12_rankOf_46 ?_
            refine g_icmp_ne (tgt := 58) (a := (A 24 x36101.toNatClampNeg).toInt) (b := (A 24 z1.toNatClampNeg).toInt) hk dX12_rankOf_47 (by decide) rfl rfl (fun c36194 => ?_) (fun c36194 => ?_)
            · skip
              replace hF := FE.pos hF c36194
              obtain ⟨y36195, ey36195⟩ : ∃ y : Int32, y = x36101 + Int32.ofInt 1 := ⟨_, rfl⟩
              replace hF := FE.lt hF ey36195
              have hy36195 : y36195.toInt = x36101.toInt + 1 := i32_add ey36195 rfl (by decide) (by omega) (by omega)
              refine g_iinc (v := y36195) (lv' := [(3, .int y36195), (2, .int x36102), (0, .ref (r 0)), (1, .int z1)]) hk 0 dX12_rankOf_58 rfl ey36195.symm (by decide) rfl ?_
              refine g_goto (tgt := 4) hk dX12_rankOf_61 (by decide) ?_
              have b36196l := Int32.le_toInt x36102
              have b36196h := Int32.toInt_lt x36102
              exact g_lv (List.forall_mem_cons.mpr ⟨List.mem_of_getElem? (i := 0) rfl, (List.forall_mem_cons.mpr ⟨List.mem_of_getElem? (i := 1) rfl, (List.forall_mem_cons.mpr ⟨List.mem_of_getElem? (i := 2) rfl, (List.forall_mem_cons.mpr ⟨List.mem_of_getElem? (i := 3) rfl, (fun _ h => absurd h List.not_mem_nil)⟩)⟩)⟩)⟩) (ih36181 y36195 x36102 (by omega) (by omega) (by omega) (by omega) hF)
            · skip
              replace hF := FE.neg hF c36194
              refine g_iload_n hk dX12_rankOf_50 rfl ?_
              refine g_iload_n hk dX12_rankOf_51 rfl ?_
              refine g_icmp_ge (tgt := 58) (a := x36101.toInt) (b := z1.toInt) hk dX12_rankOf_52 (by decide) rfl rfl (fun c36197 => ?_) (fun c36197 => ?_)
              · skip
                replace hF := FE.pos hF c36197
                obtain ⟨y36198, ey36198⟩ : ∃ y : Int32, y = x36101 + Int32.ofInt 1 := ⟨_, rfl⟩
                replace hF := FE.lt hF ey36198
                have hy36198 : y36198.toInt = x36101.toInt + 1 := i32_add ey36198 rfl (by decide) (by omega) (by omega)
                refine g_iinc (v := y36198) (lv' := [(3, .int y36198), (2, .int x36102), (0, .ref (r 0)), (1, .int z1)]) hk 0 dX12_rankOf_58 rfl ey36198.symm (by decide) rfl ?_
                refine g_goto (tgt := 4) hk dX12_rankOf_61 (by decide) ?_
                have b36199l := Int32.le_toInt x36102
                have b36199h := Int32.toInt_lt x36102
                exact g_lv (List.forall_mem_cons.mpr ⟨List.mem_of_getElem? (i := 0) rfl, (List.forall_mem_cons.mpr ⟨List.mem_of_getElem? (i := 1) rfl, (List.forall_mem_cons.mpr ⟨List.mem_of_getElem? (i := 2) rfl, (List.forall_mem_cons.mpr ⟨List.mem_of_getElem? (i := 3) rfl, (fun _ h => absurd h List.not_mem_nil)⟩)⟩)⟩)⟩) (ih36181 y36198 x36102 (by omega) (by omega) (by omega) (by omega) hF)
              · skip
                replace hF := FE.neg hF c36197
                have b36200l := Int32.le_toInt x36102
                have b36200h := Int32.toInt_lt x36102
                obtain ⟨y36201, ey36201⟩ : ∃ y : Int32, y = x36102 + Int32.ofInt 1 := ⟨_, rfl⟩
                replace hF := FE.lt hF ey36201
                refine g_iinc (v := y36201) (lv' := [(2, .int y36201), (3, .int x36101), (0, .ref (r 0)), (1, .int z1)]) hk 1 dX12_rankOf_55 rfl ey36201.symm (by decide) rfl ?_
                obtain ⟨y36202, ey36202⟩ : ∃ y : Int32, y = x36101 + Int32.ofInt 1 := ⟨_, rfl⟩
                replace hF := FE.lt hF ey36202
                have hy36202 : y36202.toInt = x36101.toInt + 1 := i32_add ey36202 rfl (by decide) (by omega) (by omega)
                refine g_iinc (v := y36202) (lv' := [(3, .int y36202), (2, .int y36201), (0, .ref (r 0)), (1, .int z1)]) hk 1 dX12_rankOf_58 rfl ey36202.symm (by decide) rfl ?_
                refine g_goto (tgt := 4) hk dX12_rankOf_61 (by decide) ?_
                have b36203l := Int32.le_toInt y36201
                have b36203h := Int32.toInt_lt y36201
                exact g_lv (List.forall_mem_cons.mpr ⟨List.mem_of_getElem? (i := 0) rfl, (List.forall_mem_cons.mpr ⟨List.mem_of_getElem? (i := 1) rfl, (List.forall_mem_cons.mpr ⟨List.mem_of_getElem? (i := 2) rfl, (List.forall_mem_cons.mpr ⟨List.mem_of_getElem? (i := 3) rfl, (fun _ h => absurd h List.not_mem_nil)⟩)⟩)⟩)⟩) (ih36181 y36202 y36201 (by omega) (by omega) (by omega) (by omega) hF)
  have k36204 : (0 : Int32).toInt = 0 := rfl
  have b36206 := Int32.le_toInt (0 : Int32)
  have b36207 := Int32.toInt_lt (0 : Int32)
  have n36205a : 161 - (0 : Int32).toInt < (FU : Int) := by have := FU_eq; omega
  have n36205b : 0 < FU := by have := FU_eq; omega
  exact lp36177 FU 0 0 (by omega) (by omega) n36205a n36205b hF
noncomputable def fM12_rank (I : Nat → Int32) (A : Nat → Nat → Int32) (L : Nat → Nat → Int64) (z1 : Int32) (z2 : Int32) : Int32 × (Nat → Int32) × (Nat → Nat → Int32) × (Nat → Nat → Int64) := if fM12_isOf I A L z1 z2 = 0 then ((-1), I, A, L) else f_bdM (fM12_fillsFar I A L z1) fun _ I36099 A36099 L36099 => f_lt (fM12_rankOf I36099 A36099 L36099 z2) fun y36208 => (y36208, I36099, A36099, L36099)
def wo_j206_X12_rank : List Cond := [Cond.methodLink RX12 342 yX12_isOf, Cond.instanceMethod yX12_isOf, Cond.selects RX12 yX12_isOf yX12_isOf, Cond.initialized RX12, Cond.methodLink RX12 357 yX12_fillsFar, Cond.instanceMethod yX12_fillsFar, Cond.selects RX12 yX12_fillsFar yX12_fillsFar, Cond.methodLink RX12 375 yX12_rankOf, Cond.instanceMethod yX12_rankOf, Cond.selects RX12 yX12_rankOf yX12_rankOf]
def wz_j206_X12_rank : List Cond := .code yX12_rank cX12_rank 3 (some .int) :: (wo_j206_X12_rank ++ (wz_j168_X12_isOf ++ (wz_j186_X12_fillsFar ++ (wz_j207_X12_rankOf ++ ([] : List Cond)))))
theorem zg_j206_X12_rank : ∀ w ∈ wz_j206_X12_rank, goodWord w = true := zg_cons rfl (zg_app (by decide +kernel) (zg_app zg_j168_X12_isOf (zg_app zg_j186_X12_fillsFar (zg_app zg_j207_X12_rankOf zg_nil))))
theorem zi_j206_X12_rank : ∀ w ∈ wz_j206_X12_rank, w ∈ lw_tbl := zi_cons zw_1887 (zi_app (zi_cons zw_1755 (zi_cons zw_1757 (zi_cons zw_78 (zi_cons zw_115 (zi_cons zw_1844 (zi_cons zw_1846 (zi_cons zw_93 (zi_cons zw_1888 (zi_cons zw_1890 (zi_cons zw_98 zi_nil)))))))))) (zi_app zi_j168_X12_isOf (zi_app zi_j186_X12_fillsFar (zi_app zi_j207_X12_rankOf zi_nil))))
set_option maxHeartbeats 4000000 in
set_option maxRecDepth 100000 in
theorem j206_X12_rank (l : Launch) (D : va_G) (zt : Nat × Nat × Nat × (Nat → Nat) × (Nat → Nat)) (r : Nat → Nat) (g : Nat → ClassId) (I : Nat → Int32) (A : Nat → Nat → Int32) (L : Nat → Nat → Int64) (z1 : Int32) (z2 : Int32) (hIv : IvM I A) : GM l D zt (tyM g) yX12_rank wz_j206_X12_rank ({ frames := 7, cells := 0, slots := 0, locals := 156 } : Room) [.ref (r 0), .int z1, .int z2] (wM r g I A L) (fun v _ w' => ∃ (I' : Nat → Int32) (A' : Nat → Nat → Int32) (L' : Nat → Nat → Int64), Md [18, 19, 20] I I' ∧ Md [18, 19, 20, 21, 24] A A' ∧ IvM I' A' ∧ ∃ y0 : Int32, (L' = L) ∧ FE (fM12_rank I A L z1 z2) (y0, I', A', L') ∧ v = some (.int y0) ∧ w' = wM r g I' A' L') 0 0 := by
  refine GM.of (cc := cX12_rank) (maxL := 3) (ret := (some .int)) (own := RX12) (lv := [(0, .ref (r 0)), (1, .int z1), (2, .int z2)]) (by decide) rfl rfl (Nat.le_of_ble_eq_true rfl) rfl (fun κ sz hk hR hN => ?_)
  have hF : FE (fM12_rank I A L z1 z2) (fM12_rank I A L z1 z2) := FE.rf
  refine g_aload_n hk dX12_rank_0 rfl ?_
  refine g_iload_n hk dX12_rank_1 rfl ?_
  refine g_iload_n hk dX12_rank_2 rfl ?_
  refine g_callV (n := 2) hk (j168_X12_isOf l D zt r g I A L z1 z2 hIv) (SP.same _) (fun _ h => h) (gi_V (List.mem_cons_of_mem _ (List.mem_append_left _ (List.mem_of_getElem? (i := 0) rfl))) (List.mem_cons_of_mem _ (List.mem_append_left _ (List.mem_of_getElem? (i := 1) rfl))) (List.mem_cons_of_mem _ (List.mem_append_left _ (List.mem_of_getElem? (i := 2) rfl))) (List.mem_cons_of_mem _ (List.mem_append_left _ (List.mem_of_getElem? (i := 3) rfl))) (gi_sub (fun w h => (List.mem_cons_of_mem _ (List.mem_append_right _ (List.mem_append_left _ h)))) zg_j168_X12_isOf)) rfl rfl rfl (by decide +kernel) ⟨Nat.le_of_ble_eq_true rfl, Nat.le_of_ble_eq_true rfl⟩ 0 rfl rfl rfl rfl (Nat.le_of_ble_eq_true rfl) ⟨Nat.le_of_ble_eq_true rfl, Nat.le_of_ble_eq_true rfl⟩ dX12_rank_3 (fun v ty' w' hp hk' => ?_)
  rcases hp with ⟨hC, rfl, rfl⟩ | ⟨c36084, c36085, c36086, c36087, c36088, c36089, c36090, c36091, c36092, c36093, c36094, c36095, hC, rfl, rfl⟩
  · skip
    replace hF := FE.pos hF hC
    show GW κ 3 0 0 (wM r g I A L) 6 [(0, .ref (r 0)), (1, .int z1), (2, .int z2)] [.int 0]
    refine g_if_ne (tgt := 11) (a := 0) hk dX12_rank_6 (by decide) rfl (fun z9 => absurd z9 (show ¬ ((0 : Int) ≠ (0 : Int)) from by decide)) (fun _ => ?_)
    refine g_iconst (v := (-1)) hk dX12_rank_9 (by decide) ?_
    exact g_iret hk hR rfl ⟨I, A, L, (show Md [18, 19, 20] I I from Md.rf), (show Md [18, 19, 20, 21, 24] A A from Md.rf), hIv, (-1), (show L = L from rfl), hF, rfl, rfl⟩ dX12_rank_10
  · skip
    replace hF := FE.neg hF (fe_ne hC (by decide))
    have f36097 : 0 ≤ (A 11 (5 * (I 15) + z1).toNatClampNeg).toInt ∧ (A 11 (5 * (I 15) + z1).toNatClampNeg).toInt ≤ 16 := IvM_a11 hIv _
    show GW κ 3 0 0 (wM r g I A L) 6 [(0, .ref (r 0)), (1, .int z1), (2, .int z2)] [.int 1]
    refine g_if_ne (tgt := 11) (a := 1) hk dX12_rank_6 (by decide) rfl (fun _ => ?_) (fun z9 => absurd (show (1 : Int) ≠ (0 : Int) from by decide) z9)
    refine g_aload_n hk dX12_rank_11 rfl ?_
    refine g_iload_n hk dX12_rank_12 rfl ?_
    refine g_callV (n := 1) hk (j186_X12_fillsFar l D zt r g I A L z1 hIv (by omega) (by omega)) (SP.same _) (fun _ h => h) (gi_V (List.mem_cons_of_mem _ (List.mem_append_left _ (List.mem_of_getElem? (i := 4) rfl))) (List.mem_cons_of_mem _ (List.mem_append_left _ (List.mem_of_getElem? (i := 5) rfl))) (List.mem_cons_of_mem _ (List.mem_append_left _ (List.mem_of_getElem? (i := 6) rfl))) (List.mem_cons_of_mem _ (List.mem_append_left _ (List.mem_of_getElem? (i := 3) rfl))) (gi_sub (fun w h => (List.mem_cons_of_mem _ (List.mem_append_right _ (List.mem_append_right _ (List.mem_append_left _ h))))) zg_j186_X12_fillsFar)) rfl rfl rfl (by decide +kernel) ⟨Nat.le_of_ble_eq_true rfl, Nat.le_of_ble_eq_true rfl⟩ 0 rfl rfl rfl rfl (Nat.le_of_ble_eq_true rfl) ⟨Nat.le_of_ble_eq_true rfl, Nat.le_of_ble_eq_true rfl⟩ dX12_rank_13 (fun v ty' w' hp hk' => ?_)
    obtain ⟨I36099, A36099, L36099, hI36099, hA36099, hV36099, r36100, hL36099, hC, rfl, rfl⟩ := hp
    replace hF := FE.bdM hF hC
    show GW κ 3 0 0 (wM r g I36099 A36099 L36099) 16 [(0, .ref (r 0)), (1, .int z1), (2, .int z2)] []
    refine g_aload_n hk dX12_rank_16 rfl ?_
    refine g_iload_n hk dX12_rank_17 rfl ?_
    refine g_callV (n := 1) hk (j207_X12_rankOf l D zt r g I36099 A36099 L36099 z2 hV36099 (by omega) (by omega)) (SP.same _) (fun _ h => h) (gi_V (List.mem_cons_of_mem _ (List.mem_append_left _ (List.mem_of_getElem? (i := 7) rfl))) (List.mem_cons_of_mem _ (List.mem_append_left _ (List.mem_of_getElem? (i := 8) rfl))) (List.mem_cons_of_mem _ (List.mem_append_left _ (List.mem_of_getElem? (i := 9) rfl))) (List.mem_cons_of_mem _ (List.mem_append_left _ (List.mem_of_getElem? (i := 3) rfl))) (gi_sub (fun w h => (List.mem_cons_of_mem _ (List.mem_append_right _ (List.mem_append_right _ (List.mem_append_right _ (List.mem_append_left _ h)))))) zg_j207_X12_rankOf)) rfl rfl rfl (by decide +kernel) ⟨Nat.le_of_ble_eq_true rfl, Nat.le_of_ble_eq_true rfl⟩ 0 rfl rfl rfl rfl (Nat.le_of_ble_eq_true rfl) ⟨Nat.le_of_ble_eq_true rfl, Nat.le_of_ble_eq_true rfl⟩ dX12_rank_18 (fun v ty' w' hp hk' => ?_)
    obtain ⟨y36208, hC, rfl, rfl⟩ := hp
    replace hF := FE.lt hF (fe_s hC)
    show GW κ 3 0 0 (wM r g I36099 A36099 L36099) 21 [(0, .ref (r 0)), (1, .int z1), (2, .int z2)] [.int y36208]
    have b36209l := Int32.le_toInt y36208
    have b36209h := Int32.toInt_lt y36208
    exact g_iret hk hR rfl ⟨I36099, A36099, L36099, (show Md [18, 19, 20] I I36099 from (Md.tr Md.rf hI36099 rfl)), (show Md [18, 19, 20, 21, 24] A A36099 from (Md.tr Md.rf hA36099 rfl)), hV36099, y36208, (show L36099 = L from hL36099), hF, rfl, rfl⟩ dX12_rank_21
noncomputable def bM12_kth_31 (I36228 : Nat → Int32) (A36228 : Nat → Nat → Int32) (L36228 : Nat → Nat → Int64) (z2 : Int32) (z3 : Int32) : (Int32 → (Int32 × (Nat → Int32) × (Nat → Nat → Int32) × (Nat → Nat → Int64))) → Int32 → (Int32 × (Nat → Int32) × (Nat → Nat → Int32) × (Nat → Nat → Int64)) := fun kk36274 x36230 => if 160 ≤ x36230.toInt then ((-2), I36228, A36228, L36228) else if (A36228 24 x36230.toNatClampNeg).toInt < 0 then f_lt (x36230 + Int32.ofInt 1) fun y36279 => kk36274 y36279 else f_lt (fM12_rankOf I36228 A36228 L36228 x36230) fun y36280 => if y36280.toInt ≠ z2.toInt then f_lt (x36230 + Int32.ofInt 1) fun y36283 => kk36274 y36283 else if z3.toInt ≠ 0 then ((A36228 24 x36230.toNatClampNeg), I36228, A36228, L36228) else (x36230, I36228, A36228, L36228)
noncomputable def fM12_kth (I : Nat → Int32) (A : Nat → Nat → Int32) (L : Nat → Nat → Int64) (z1 : Int32) (z2 : Int32) (z3 : Int32) : Int32 × (Nat → Int32) × (Nat → Nat → Int32) × (Nat → Nat → Int64) := if fM12_isQuery I A L z1 = 0 then ((-1), I, A, L) else if z2.toInt < 0 then ((-1), I, A, L) else if fM12_in I A L z3 0 1 = 0 then ((-1), I, A, L) else f_bdM (fM12_fillsFar I A L z1) fun _ I36228 A36228 L36228 => itr_i dfM (bM12_kth_31 I36228 A36228 L36228 z2 z3) FU 0
def wo_j208_X12_kth : List Cond := [Cond.methodLink RX12 251 yX12_isQuery, Cond.instanceMethod yX12_isQuery, Cond.selects RX12 yX12_isQuery yX12_isQuery, Cond.initialized RX12, Cond.methodLink RX12 244 yX12_in, Cond.static yX12_in, Cond.methodLink RX12 357 yX12_fillsFar, Cond.instanceMethod yX12_fillsFar, Cond.selects RX12 yX12_fillsFar yX12_fillsFar, Cond.fieldLink RX12 91 "WarpDeskModel" "farBy" "[I", Cond.methodLink RX12 375 yX12_rankOf, Cond.instanceMethod yX12_rankOf, Cond.selects RX12 yX12_rankOf yX12_rankOf]
def wz_j208_X12_kth : List Cond := .code yX12_kth cX12_kth 5 (some .int) :: (wo_j208_X12_kth ++ (wsX120 ++ (wz_j147_X12_isQuery ++ (wz_j145_X12_in ++ (wz_j186_X12_fillsFar ++ (wz_j207_X12_rankOf ++ ([] : List Cond)))))))
theorem zg_j208_X12_kth : ∀ w ∈ wz_j208_X12_kth, goodWord w = true := zg_cons rfl (zg_app (by decide +kernel) (zg_app zgU_wsX120 (zg_app zg_j147_X12_isQuery (zg_app zg_j145_X12_in (zg_app zg_j186_X12_fillsFar (zg_app zg_j207_X12_rankOf zg_nil))))))
theorem zi_j208_X12_kth : ∀ w ∈ wz_j208_X12_kth, w ∈ lw_tbl := zi_cons zw_1895 (zi_app (zi_cons zw_1663 (zi_cons zw_1665 (zi_cons zw_67 (zi_cons zw_115 (zi_cons zw_1656 (zi_cons zw_1657 (zi_cons zw_1844 (zi_cons zw_1846 (zi_cons zw_93 (zi_cons zw_1426 (zi_cons zw_1888 (zi_cons zw_1890 (zi_cons zw_98 zi_nil))))))))))))) (zi_app inX12 (zi_app zi_j147_X12_isQuery (zi_app zi_j145_X12_in (zi_app zi_j186_X12_fillsFar (zi_app zi_j207_X12_rankOf zi_nil))))))
set_option maxHeartbeats 4000000 in
set_option maxRecDepth 100000 in
theorem j208_X12_kth (l : Launch) (D : va_G) (zt : Nat × Nat × Nat × (Nat → Nat) × (Nat → Nat)) (r : Nat → Nat) (g : Nat → ClassId) (I : Nat → Int32) (A : Nat → Nat → Int32) (L : Nat → Nat → Int64) (z1 : Int32) (z2 : Int32) (z3 : Int32) (hIv : IvM I A) : GM l D zt (tyM g) yX12_kth wz_j208_X12_kth ({ frames := 7, cells := 0, slots := 0, locals := 156 } : Room) [.ref (r 0), .int z1, .int z2, .int z3] (wM r g I A L) (fun v _ w' => ∃ (I' : Nat → Int32) (A' : Nat → Nat → Int32) (L' : Nat → Nat → Int64), Md [18, 19, 20] I I' ∧ Md [18, 19, 20, 21, 24] A A' ∧ IvM I' A' ∧ ∃ y0 : Int32, (L' = L) ∧ ((-2) ≤ y0.toInt) ∧ FE (fM12_kth I A L z1 z2 z3) (y0, I', A', L') ∧ v = some (.int y0) ∧ w' = wM r g I' A' L') 0 0 := by
  refine GM.of (cc := cX12_kth) (maxL := 5) (ret := (some .int)) (own := RX12) (lv := [(0, .ref (r 0)), (1, .int z1), (2, .int z2), (3, .int z3)]) (by decide) rfl rfl (Nat.le_of_ble_eq_true rfl) rfl (fun κ sz hk hR hN => ?_)
  have hin12 : ∀ w ∈ u_ws RX12 TX12 55, w ∈ wz_j208_X12_kth := fun w h => (List.mem_cons_of_mem _ (List.mem_append_right _ (List.mem_append_left _ h)))
  have hF : FE (fM12_kth I A L z1 z2 z3) (fM12_kth I A L z1 z2 z3) := FE.rf
  refine g_aload_n hk dX12_kth_0 rfl ?_
  refine g_iload_n hk dX12_kth_1 rfl ?_
  refine g_callV (n := 1) hk (j147_X12_isQuery l D zt r g I A L z1 hIv) (SP.same _) (fun _ h => h) (gi_V (List.mem_cons_of_mem _ (List.mem_append_left _ (List.mem_of_getElem? (i := 0) rfl))) (List.mem_cons_of_mem _ (List.mem_append_left _ (List.mem_of_getElem? (i := 1) rfl))) (List.mem_cons_of_mem _ (List.mem_append_left _ (List.mem_of_getElem? (i := 2) rfl))) (List.mem_cons_of_mem _ (List.mem_append_left _ (List.mem_of_getElem? (i := 3) rfl))) (gi_sub (fun w h => (List.mem_cons_of_mem _ (List.mem_append_right _ (List.mem_append_right _ (List.mem_append_left _ h))))) zg_j147_X12_isQuery)) rfl rfl rfl (by decide +kernel) ⟨Nat.le_of_ble_eq_true rfl, Nat.le_of_ble_eq_true rfl⟩ 0 rfl rfl rfl rfl (Nat.le_of_ble_eq_true rfl) ⟨Nat.le_of_ble_eq_true rfl, Nat.le_of_ble_eq_true rfl⟩ dX12_kth_2 (fun v ty' w' hp hk' => ?_)
  rcases hp with ⟨hC, rfl, rfl⟩ | ⟨c36211, c36212, c36213, c36214, hC, rfl, rfl⟩
  · skip
    replace hF := FE.pos hF hC
    show GW κ 5 0 0 (wM r g I A L) 5 [(0, .ref (r 0)), (1, .int z1), (2, .int z2), (3, .int z3)] [.int 0]
    refine g_if_eq (tgt := 21) (a := 0) hk dX12_kth_5 (by decide) rfl (fun _ => ?_) (fun z9 => absurd (show (0 : Int) = (0 : Int) from by decide) z9)
    refine g_iconst (v := (-1)) hk dX12_kth_21 (by decide) ?_
    exact g_iret hk hR rfl ⟨I, A, L, (show Md [18, 19, 20] I I from Md.rf), (show Md [18, 19, 20, 21, 24] A A from Md.rf), hIv, (-1), (show L = L from rfl), (by decide), hF, rfl, rfl⟩ dX12_kth_22
  · skip
    replace hF := FE.neg hF (fe_ne hC (by decide))
    have f36216 : 0 ≤ (A 11 (5 * (I 15) + z1).toNatClampNeg).toInt ∧ (A 11 (5 * (I 15) + z1).toNatClampNeg).toInt ≤ 16 := IvM_a11 hIv _
    show GW κ 5 0 0 (wM r g I A L) 5 [(0, .ref (r 0)), (1, .int z1), (2, .int z2), (3, .int z3)] [.int 1]
    refine g_if_eq (tgt := 21) (a := 1) hk dX12_kth_5 (by decide) rfl (fun z9 => absurd z9 (show ¬ ((1 : Int) = (0 : Int)) from by decide)) (fun _ => ?_)
    refine g_iload_n hk dX12_kth_8 rfl ?_
    have b36217l := Int32.le_toInt z2
    have b36217h := Int32.toInt_lt z2
    refine g_if_lt (tgt := 21) (a := z2.toInt) hk dX12_kth_9 (by decide) rfl (fun c36218 => ?_) (fun c36218 => ?_)
    · skip
      replace hF := FE.pos hF c36218
      refine g_iconst (v := (-1)) hk dX12_kth_21 (by decide) ?_
      exact g_iret hk hR rfl ⟨I, A, L, (show Md [18, 19, 20] I I from Md.rf), (show Md [18, 19, 20, 21, 24] A A from Md.rf), hIv, (-1), (show L = L from rfl), (by decide), hF, rfl, rfl⟩ dX12_kth_22
    · skip
      replace hF := FE.neg hF c36218
      refine g_iload_n hk dX12_kth_12 rfl ?_
      refine g_iconst (v := 0) hk dX12_kth_13 (by decide) ?_
      refine g_iconst (v := 1) hk dX12_kth_14 (by decide) ?_
      have k36219 : (0 : Int32).toInt = 0 := rfl
      have k36220 : (1 : Int32).toInt = 1 := rfl
      refine g_callS (n := 3) hk (j145_X12_in l D zt r g I A L z3 0 1 hIv) (SP.same _) (fun _ h => h) (gi_S (List.mem_cons_of_mem _ (List.mem_append_left _ (List.mem_of_getElem? (i := 4) rfl))) (List.mem_cons_of_mem _ (List.mem_append_left _ (List.mem_of_getElem? (i := 5) rfl))) (List.mem_cons_of_mem _ (List.mem_append_left _ (List.mem_of_getElem? (i := 3) rfl))) (gi_sub (fun w h => (List.mem_cons_of_mem _ (List.mem_append_right _ (List.mem_append_right _ (List.mem_append_right _ (List.mem_append_left _ h)))))) zg_j145_X12_in)) rfl rfl rfl (by decide +kernel) ⟨Nat.le_of_ble_eq_true rfl, Nat.le_of_ble_eq_true rfl⟩ rfl rfl (Nat.le_of_ble_eq_true rfl) ⟨Nat.le_of_ble_eq_true rfl, Nat.le_of_ble_eq_true rfl⟩ dX12_kth_15 (fun v ty' w' hp hk' => ?_)
      rcases hp with ⟨c36221, hC, rfl, rfl⟩ | ⟨c36223, c36224, hC, rfl, rfl⟩
      · skip
        replace hF := FE.pos hF hC
        have b36226l := Int32.le_toInt z3
        have b36226h := Int32.toInt_lt z3
        show GW κ 5 0 0 (wM r g I A L) 18 [(0, .ref (r 0)), (1, .int z1), (2, .int z2), (3, .int z3)] [.int 0]
        refine g_if_ne (tgt := 23) (a := 0) hk dX12_kth_18 (by decide) rfl (fun z9 => absurd z9 (show ¬ ((0 : Int) ≠ (0 : Int)) from by decide)) (fun _ => ?_)
        refine g_iconst (v := (-1)) hk dX12_kth_21 (by decide) ?_
        exact g_iret hk hR rfl ⟨I, A, L, (show Md [18, 19, 20] I I from Md.rf), (show Md [18, 19, 20, 21, 24] A A from Md.rf), hIv, (-1), (show L = L from rfl), (by decide), hF, rfl, rfl⟩ dX12_kth_22
      · skip
        replace hF := FE.neg hF (fe_ne hC (by decide))
        show GW κ 5 0 0 (wM r g I A L) 18 [(0, .ref (r 0)), (1, .int z1), (2, .int z2), (3, .int z3)] [.int 1]
        refine g_if_ne (tgt := 23) (a := 1) hk dX12_kth_18 (by decide) rfl (fun _ => ?_) (fun z9 => absurd (show (1 : Int) ≠ (0 : Int) from by decide) z9)
        refine g_aload_n hk dX12_kth_23 rfl ?_
        refine g_iload_n hk dX12_kth_24 rfl ?_
        refine g_callV (n := 1) hk (j186_X12_fillsFar l D zt r g I A L z1 hIv (by omega) (by omega)) (SP.same _) (fun _ h => h) (gi_V (List.mem_cons_of_mem _ (List.mem_append_left _ (List.mem_of_getElem? (i := 6) rfl))) (List.mem_cons_of_mem _ (List.mem_append_left _ (List.mem_of_getElem? (i := 7) rfl))) (List.mem_cons_of_mem _ (List.mem_append_left _ (List.mem_of_getElem? (i := 8) rfl))) (List.mem_cons_of_mem _ (List.mem_append_left _ (List.mem_of_getElem? (i := 3) rfl))) (gi_sub (fun w h => (List.mem_cons_of_mem _ (List.mem_append_right _ (List.mem_append_right _ (List.mem_append_right _ (List.mem_append_right _ (List.mem_append_left _ h))))))) zg_j186_X12_fillsFar)) rfl rfl rfl (by decide +kernel) ⟨Nat.le_of_ble_eq_true rfl, Nat.le_of_ble_eq_true rfl⟩ 0 rfl rfl rfl rfl (Nat.le_of_ble_eq_true rfl) ⟨Nat.le_of_ble_eq_true rfl, Nat.le_of_ble_eq_true rfl⟩ dX12_kth_25 (fun v ty' w' hp hk' => ?_)
        obtain ⟨I36228, A36228, L36228, hI36228, hA36228, hV36228, r36229, hL36228, hC, rfl, rfl⟩ := hp
        replace hF := FE.bdM hF hC
        show GW κ 5 0 0 (wM r g I36228 A36228 L36228) 28 [(0, .ref (r 0)), (1, .int z1), (2, .int z2), (3, .int z3)] []
        refine g_iconst (v := 0) hk dX12_kth_28 (by decide) ?_
        refine g_istore (lv' := [(4, .int 0), (0, .ref (r 0)), (1, .int z1), (2, .int z2), (3, .int z3)]) hk dX12_kth_29 (by decide) rfl ?_
        have lp36271 : ∀ (n36272 : Nat) (x36230 : Int32), (0 ≤ x36230.toInt) → (x36230.toInt ≤ 160) → (161 - x36230.toInt < (n36272 : Int)) → (0 < n36272) → (FE (fM12_kth I A L z1 z2 z3) (itr_i dfM (bM12_kth_31 I36228 A36228 L36228 z2 z3) n36272 x36230)) → GW κ 5 0 0 (wM r g I36228 A36228 L36228) 31 [(4, .int x36230), (0, .ref (r 0)), (1, .int z1), (2, .int z2), (3, .int z3)] [] := by
          intro n36272
          induction n36272 with
          | zero =>
            intro x36230 h36269 h36270 m36273 m36273z hF
            exact absurd m36273z (Nat.lt_irrefl 0)
          | succ n36272 ih36275 =>
            intro x36230 h36269 h36270 m36273 m36273z hF
            replace hF := FE.itr_i hF
            refine g_iload hk dX12_kth_31 rfl ?_
            refine g_sipush (v := 160) hk dX12_kth_33 (by decide) ?_
            refine g_icmp_ge (tgt := 82) (a := x36230.toInt) (b := 160) hk dX12_kth_36 (by decide) rfl rfl (fun c36276 => ?_) (fun c36276 => ?_)
            · skip
              replace hF := FE.pos hF c36276
              refine g_bipush (v := (-2)) hk dX12_kth_82 (by decide) ?_
              exact g_iret hk hR rfl ⟨I36228, A36228, L36228, (show Md [18, 19, 20] I I36228 from (Md.tr Md.rf hI36228 rfl)), (show Md [18, 19, 20, 21, 24] A A36228 from (Md.tr Md.rf hA36228 rfl)), hV36228, (-2), (show L36228 = L from hL36228), (by decide), hF, rfl, rfl⟩ dX12_kth_84
            · skip
              replace hF := FE.neg hF c36276
              refine g_aload_n hk dX12_kth_39 rfl ?_
              refine gM_r0_48 hk hin12 (List.mem_cons_of_mem _ (List.mem_append_left _ (List.mem_of_getElem? (i := 9) rfl))) dX12_kth_40 ?_
              refine g_iload hk dX12_kth_43 rfl ?_
              refine lM_24 (v := (A36228 24 x36230.toNatClampNeg)) hk (vp_in_iff.mpr ⟨by omega, by omega⟩) rfl dX12_kth_45 ?_
              have b36277l := Int32.le_toInt (A36228 24 x36230.toNatClampNeg)
              have b36277h := Int32.toInt_lt (A36228 24 x36230.toNatClampNeg)
              refine g_if_lt (tgt := 76) (a := (A36228 24 x36230.toNatClampNeg).toInt) hk dX12_kth_46 (by decide) rfl (fun c36278 => ?_) (fun c36278 => ?_)
              · skip
                replace hF := FE.pos hF c36278
                obtain ⟨y36279, ey36279⟩ : ∃ y : Int32, y = x36230 + Int32.ofInt 1 := ⟨_, rfl⟩
                replace hF := FE.lt hF ey36279
                have hy36279 : y36279.toInt = x36230.toInt + 1 := i32_add ey36279 rfl (by decide) (by omega) (by omega)
                refine g_iinc (v := y36279) (lv' := [(4, .int y36279), (0, .ref (r 0)), (1, .int z1), (2, .int z2), (3, .int z3)]) hk 0 dX12_kth_76 rfl ey36279.symm (by decide) rfl ?_
                refine g_goto (tgt := 31) hk dX12_kth_79 (by decide) ?_
                exact g_lv (List.forall_mem_cons.mpr ⟨List.mem_of_getElem? (i := 0) rfl, (List.forall_mem_cons.mpr ⟨List.mem_of_getElem? (i := 1) rfl, (List.forall_mem_cons.mpr ⟨List.mem_of_getElem? (i := 2) rfl, (List.forall_mem_cons.mpr ⟨List.mem_of_getElem? (i := 3) rfl, (List.forall_mem_cons.mpr ⟨List.mem_of_getElem? (i := 4) rfl, (fun _ h => absurd h List.not_mem_nil)⟩)⟩)⟩)⟩)⟩) (ih36275 y36279 (by omega) (by omega) (by omega) (by omega) hF)
              · skip
                replace hF := FE.neg hF c36278
                refine g_aload_n hk dX12_kth_49 rfl ?_
                refine g_iload hk dX12_kth_50 rfl ?_
                refine g_callV (n := 1) hk (j207_X12_rankOf l D zt r g I36228 A36228 L36228 x36230 hV36228 (by omega) (by omega)) (SP.same _) (fun _ h => h) (gi_V (List.mem_cons_of_mem _ (List.mem_append_left _ (List.mem_of_getElem? (i := 10) rfl))) (List.mem_cons_of_mem _ (List.mem_append_left _ (List.mem_of_getElem? (i := 11) rfl))) (List.mem_cons_of_mem _ (List.mem_append_left _ (List.mem_of_getElem? (i := 12) rfl))) (List.mem_cons_of_mem _ (List.mem_append_left _ (List.mem_of_getElem? (i := 3) rfl))) (gi_sub (fun w h => (List.mem_cons_of_mem _ (List.mem_append_right _ (List.mem_append_right _ (List.mem_append_right _ (List.mem_append_right _ (List.mem_append_right _ (List.mem_append_left _ h)))))))) zg_j207_X12_rankOf)) rfl rfl rfl (by decide +kernel) ⟨Nat.le_of_ble_eq_true rfl, Nat.le_of_ble_eq_true rfl⟩ 0 rfl rfl rfl rfl (Nat.le_of_ble_eq_true rfl) ⟨Nat.le_of_ble_eq_true rfl, Nat.le_of_ble_eq_true rfl⟩ dX12_kth_52 (fun v ty' w' hp hk' => ?_)
                obtain ⟨y36280, hC, rfl, rfl⟩ := hp
                replace hF := FE.lt hF (fe_s hC)
                show GW κ 5 0 0 (wM r g I36228 A36228 L36228) 55 [(4, .int x36230), (0, .ref (r 0)), (1, .int z1), (2, .int z2), (3, .int z3)] [.int y36280]
                refine g_iload_n hk dX12_kth_55 rfl ?_
                have b36281l := Int32.le_toInt y36280
                have b36281h := Int32.toInt_lt y36280
                refine g_icmp_ne (tgt := 76) (a := y36280.toInt) (b := z2.toInt) hk dX12_kth_56 (by decide) rfl rfl (fun c36282 => ?_) (fun c36282 => ?_)
                · skip
                  replace hF := FE.pos hF c36282
                  obtain ⟨y36283, ey36283⟩ : ∃ y : Int32, y = x36230 + Int32.ofInt 1 := ⟨_, rfl⟩
                  replace hF := FE.lt hF ey36283
                  have hy36283 : y36283.toInt = x36230.toInt + 1 := i32_add ey36283 rfl (by decide) (by omega) (by omega)
                  refine g_iinc (v := y36283) (lv' := [(4, .int y36283), (0, .ref (r 0)), (1, .int z1), (2, .int z2), (3, .int z3)]) hk 0 dX12_kth_76 rfl ey36283.symm (by decide) rfl ?_
                  refine g_goto (tgt := 31) hk dX12_kth_79 (by decide) ?_
                  exact g_lv (List.forall_mem_cons.mpr ⟨List.mem_of_getElem? (i := 0) rfl, (List.forall_mem_cons.mpr ⟨List.mem_of_getElem? (i := 1) rfl, (List.forall_mem_cons.mpr ⟨List.mem_of_getElem? (i := 2) rfl, (List.forall_mem_cons.mpr ⟨List.mem_of_getElem? (i := 3) rfl, (List.forall_mem_cons.mpr ⟨List.mem_of_getElem? (i := 4) rfl, (fun _ h => absurd h List.not_mem_nil)⟩)⟩)⟩)⟩)⟩) (ih36275 y36283 (by omega) (by omega) (by omega) (by omega) hF)
                · skip
                  replace hF := FE.neg hF c36282
                  refine g_iload_n hk dX12_kth_59 rfl ?_
                  refine g_if_ne (tgt := 68) (a := z3.toInt) hk dX12_kth_60 (by decide) rfl (fun c36284 => ?_) (fun c36284 => ?_)
                  · skip
                    replace hF := FE.pos hF c36284
                    refine g_aload_n hk dX12_kth_68 rfl ?_
                    refine gM_r0_48 hk hin12 (List.mem_cons_of_mem _ (List.mem_append_left _ (List.mem_of_getElem? (i := 9) rfl))) dX12_kth_69 ?_
                    refine g_iload hk dX12_kth_72 rfl ?_
                    refine lM_24 (v := (A36228 24 x36230.toNatClampNeg)) hk (vp_in_iff.mpr ⟨by omega, by omega⟩) rfl dX12_kth_74 ?_
                    exact g_iret hk hR rfl ⟨I36228, A36228, L36228, (show Md [18, 19, 20] I I36228 from (Md.tr Md.rf hI36228 rfl)), (show Md [18, 19, 20, 21, 24] A A36228 from (Md.tr Md.rf hA36228 rfl)), hV36228, (A36228 24 x36230.toNatClampNeg), (show L36228 = L from hL36228), (by omega), hF, rfl, rfl⟩ dX12_kth_75
                  · skip
                    replace hF := FE.neg hF c36284
                    refine g_iload hk dX12_kth_63 rfl ?_
                    refine g_goto (tgt := 75) hk dX12_kth_65 (by decide) ?_
                    exact g_iret hk hR rfl ⟨I36228, A36228, L36228, (show Md [18, 19, 20] I I36228 from (Md.tr Md.rf hI36228 rfl)), (show Md [18, 19, 20, 21, 24] A A36228 from (Md.tr Md.rf hA36228 rfl)), hV36228, x36230, (show L36228 = L from hL36228), (by omega), hF, rfl, rfl⟩ dX12_kth_75
        have b36286 := Int32.le_toInt (0 : Int32)
        have b36287 := Int32.toInt_lt (0 : Int32)
        have n36285a : 161 - (0 : Int32).toInt < (FU : Int) := by have := FU_eq; omega
        have n36285b : 0 < FU := by have := FU_eq; omega
        exact lp36271 FU 0 (by omega) (by omega) n36285a n36285b hF
noncomputable def fM12_greater (I : Nat → Int32) (A : Nat → Nat → Int32) (L : Nat → Nat → Int64) (z0 : Int32) (z1 : Int32) : Int32 := if z0.toInt ≤ z1.toInt then z1 else z0
def wz_j210_X12_greater : List Cond := .code yX12_greater cX12_greater 2 (some .int) :: (wo_k126_X10_isLetter ++ ([] : List Cond))
theorem zg_j210_X12_greater : ∀ w ∈ wz_j210_X12_greater, goodWord w = true := zg_cons rfl (zg_app (by decide +kernel) zg_nil)
theorem zi_j210_X12_greater : ∀ w ∈ wz_j210_X12_greater, w ∈ lw_tbl := zi_cons zw_1902 (zi_app zi_nil zi_nil)
set_option maxHeartbeats 4000000 in
set_option maxRecDepth 100000 in
theorem j210_X12_greater (l : Launch) (D : va_G) (zt : Nat × Nat × Nat × (Nat → Nat) × (Nat → Nat)) (r : Nat → Nat) (g : Nat → ClassId) (I : Nat → Int32) (A : Nat → Nat → Int32) (L : Nat → Nat → Int64) (z0 : Int32) (z1 : Int32) (hIv : IvM I A) : GM l D zt (tyM g) yX12_greater wz_j210_X12_greater ({ frames := 0, cells := 0, slots := 0, locals := 0 } : Room) [.int z0, .int z1] (wM r g I A L) (fun v _ w' => ∃ y0 : Int32, FE (fM12_greater I A L z0 z1) y0 ∧ v = some (.int y0) ∧ w' = wM r g I A L) 0 0 := by
  refine GM.of (cc := cX12_greater) (maxL := 2) (ret := (some .int)) (own := RX12) (lv := [(0, .int z0), (1, .int z1)]) (by decide) rfl rfl (Nat.le_of_ble_eq_true rfl) rfl (fun κ sz hk hR hN => ?_)
  have hF : FE (fM12_greater I A L z0 z1) (fM12_greater I A L z0 z1) := FE.rf
  refine g_iload_n hk dX12_greater_0 rfl ?_
  refine g_iload_n hk dX12_greater_1 rfl ?_
  have b36329l := Int32.le_toInt z0
  have b36329h := Int32.toInt_lt z0
  have b36330l := Int32.le_toInt z1
  have b36330h := Int32.toInt_lt z1
  refine g_icmp_le (tgt := 9) (a := z0.toInt) (b := z1.toInt) hk dX12_greater_2 (by decide) rfl rfl (fun c36331 => ?_) (fun c36331 => ?_)
  · skip
    replace hF := FE.pos hF c36331
    refine g_iload_n hk dX12_greater_9 rfl ?_
    exact g_iret hk hR rfl ⟨z1, hF, rfl, rfl⟩ dX12_greater_10
  · skip
    replace hF := FE.neg hF c36331
    refine g_iload_n hk dX12_greater_5 rfl ?_
    refine g_goto (tgt := 10) hk dX12_greater_6 (by decide) ?_
    exact g_iret hk hR rfl ⟨z0, hF, rfl, rfl⟩ dX12_greater_10
