noncomputable def fX11_isStretch (I : Nat → Int32) (A : Nat → Nat → Int32) (z0 : Int32) : Int32 := if z0.toInt < 2 then 0 else if 16 < z0.toInt then 0 else 1
def wz_k212_X11_isStretch : List Cond := .code yX11_isStretch cX11_isStretch 1 (some .boolean) :: (wo_k126_X10_isLetter ++ ([] : List Cond))
theorem zg_k212_X11_isStretch : ∀ w ∈ wz_k212_X11_isStretch, goodWord w = true := zg_cons rfl (zg_app (by decide +kernel) zg_nil)
theorem zi_k212_X11_isStretch : ∀ w ∈ wz_k212_X11_isStretch, w ∈ lw_tbl := zi_cons zw_928 (zi_app zi_nil zi_nil)
set_option maxHeartbeats 4000000 in
set_option maxRecDepth 100000 in
theorem k212_X11_isStretch (l : Launch) (D : va_G) (zt : Nat × Nat × Nat × (Nat → Nat) × (Nat → Nat)) (q : Nat → Nat) (d : Nat → ClassId) (I : Nat → Int32) (A : Nat → Nat → Int32) (z0 : Int32) (hIv : IvX I A) : GM l D zt (tyX d) yX11_isStretch wz_k212_X11_isStretch ({ frames := 0, cells := 0, slots := 0, locals := 0 } : Room) [.int z0] (wX q d I A) (fun v _ w' => (FE (fX11_isStretch I A z0) (0) ∧ v = some (.int 0) ∧ w' = wX q d I A) ∨ ((¬ (z0.toInt < 2)) ∧ (¬ (16 < z0.toInt)) ∧ (2 ≤ z0.toInt) ∧ (z0.toInt ≤ 16) ∧ FE (fX11_isStretch I A z0) (1) ∧ v = some (.int 1) ∧ w' = wX q d I A)) 0 0 := by
  refine GM.of (cc := cX11_isStretch) (maxL := 1) (ret := (some .boolean)) (own := RX11) (lv := [(0, .int z0)]) (by decide) rfl rfl (Nat.le_of_ble_eq_true rfl) rfl (fun κ sz hk hR hN => ?_)
  have hF : FE (fX11_isStretch I A z0) (fX11_isStretch I A z0) := FE.rf
  refine g_iload_n hk dX11_isStretch_0 rfl ?_
  refine g_iconst (v := 2) hk dX11_isStretch_1 (by decide) ?_
  have b2517l := Int32.le_toInt z0
  have b2517h := Int32.toInt_lt z0
  refine g_icmp_lt (tgt := 15) (a := z0.toInt) (b := 2) hk dX11_isStretch_2 (by decide) rfl rfl (fun c2518 => ?_) (fun c2518 => ?_)
  · skip
    replace hF := FE.pos hF c2518
    refine g_iconst (v := 0) hk dX11_isStretch_15 (by decide) ?_
    exact g_iret hk hR rfl (Or.inl ⟨hF, rfl, rfl⟩) dX11_isStretch_16
  · skip
    replace hF := FE.neg hF c2518
    refine g_iload_n hk dX11_isStretch_5 rfl ?_
    refine g_bipush (v := 16) hk dX11_isStretch_6 (by decide) ?_
    refine g_icmp_gt (tgt := 15) (a := z0.toInt) (b := 16) hk dX11_isStretch_8 (by decide) rfl rfl (fun c2519 => ?_) (fun c2519 => ?_)
    · skip
      replace hF := FE.pos hF c2519
      refine g_iconst (v := 0) hk dX11_isStretch_15 (by decide) ?_
      exact g_iret hk hR rfl (Or.inl ⟨hF, rfl, rfl⟩) dX11_isStretch_16
    · skip
      replace hF := FE.neg hF c2519
      refine g_iconst (v := 1) hk dX11_isStretch_11 (by decide) ?_
      refine g_goto (tgt := 16) hk dX11_isStretch_12 (by decide) ?_
      exact g_iret hk hR rfl (Or.inr (⟨c2518, c2519, (by omega), (by omega), hF, rfl, rfl⟩)) dX11_isStretch_16
noncomputable def fX2_begin (I : Nat → Int32) (A : Nat → Nat → Int32) (z1 : Int32) (z2 : Int32) (z3 : Int32) : Int32 × (Nat → Int32) × (Nat → Nat → Int32) := f_lt (if (16 : Int32) < z1 then (16 : Int32) else z1) fun y2542 => f_lt (if (1 : Int32) < y2542 then y2542 else (1 : Int32)) fun y2545 => f_lt (if (0 : Int32) < z2 then z2 else (0 : Int32)) fun y2548 => if z3.toInt ≠ 1 then (0, (upd (upd (upd I 30 y2545) 31 y2548) 32 0), A) else (0, (upd (upd (upd I 30 y2545) 31 y2548) 32 1), A)
def wo_k215_X2_begin : List Cond := [Cond.methodLink RX2 28 Lib.Math.min.name, Cond.static Lib.Math.min.name, Cond.initialized "java/lang/Math", Cond.code Lib.Math.min.name Lib.Math.min.code 2 (some .int), Cond.methodLink RX2 34 Lib.Math.max.name, Cond.static Lib.Math.max.name, Cond.code Lib.Math.max.name Lib.Math.max.code 2 (some .int), Cond.fieldLink RX2 24 "WarpDesk$Fit" "length" "I", Cond.fieldLink RX2 37 "WarpDesk$Fit" "band" "I", Cond.fieldLink RX2 42 "WarpDesk$Fit" "isSquare" "Z"]
def wz_k215_X2_begin : List Cond := .code yX2_begin cX2_begin 4 none :: (wo_k215_X2_begin ++ (wsX20 ++ ([] : List Cond)))
theorem zg_k215_X2_begin : ∀ w ∈ wz_k215_X2_begin, goodWord w = true := zg_cons rfl (zg_app (by decide +kernel) (zg_app zgU_wsX20 zg_nil))
theorem zi_k215_X2_begin : ∀ w ∈ wz_k215_X2_begin, w ∈ lw_tbl := zi_cons zw_941 (zi_app (zi_cons zw_942 (zi_cons zw_829 (zi_cons zw_120 (zi_cons zw_830 (zi_cons zw_943 (zi_cons zw_920 (zi_cons zw_921 (zi_cons zw_343 (zi_cons zw_344 (zi_cons zw_345 zi_nil)))))))))) (zi_app inX2 zi_nil))
set_option maxHeartbeats 4000000 in
set_option maxRecDepth 100000 in
theorem k215_X2_begin (l : Launch) (D : va_G) (zt : Nat × Nat × Nat × (Nat → Nat) × (Nat → Nat)) (q : Nat → Nat) (d : Nat → ClassId) (I : Nat → Int32) (A : Nat → Nat → Int32) (z1 : Int32) (z2 : Int32) (z3 : Int32) (hIv : IvX I A) : GM l D zt (tyX d) yX2_begin wz_k215_X2_begin ({ frames := 1, cells := 0, slots := 0, locals := 15 } : Room) [.ref (q 38), .int z1, .int z2, .int z3] (wX q d I A) (fun v _ w' => ∃ (I' : Nat → Int32) (A' : Nat → Nat → Int32), Md [30, 31, 32] I I' ∧ Md [] A A' ∧ IvX I' A' ∧ FE (fX2_begin I A z1 z2 z3) (0, I', A') ∧ v = none ∧ w' = wX q d I' A') 0 0 := by
  refine GM.of (cc := cX2_begin) (maxL := 4) (ret := none) (own := RX2) (lv := [(0, .ref (q 38)), (1, .int z1), (2, .int z2), (3, .int z3)]) (by decide) rfl rfl (Nat.le_of_ble_eq_true rfl) rfl (fun κ sz hk hR hN => ?_)
  have hin2 : ∀ w ∈ u_ws RX2 TX2 10, w ∈ wz_k215_X2_begin := fun w h => (List.mem_cons_of_mem _ (List.mem_append_right _ (List.mem_append_left _ h)))
  have hF : FE (fX2_begin I A z1 z2 z3) (fX2_begin I A z1 z2 z3) := FE.rf
  refine g_aload_n hk dX2_begin_0 rfl ?_
  refine g_iconst (v := 1) hk dX2_begin_1 (by decide) ?_
  refine g_iload_n hk dX2_begin_2 rfl ?_
  refine g_bipush (v := 16) hk dX2_begin_3 (by decide) ?_
  have b2541l := Int32.le_toInt z1
  have b2541h := Int32.toInt_lt z1
  refine g_mmin hk (List.mem_cons_of_mem _ (List.mem_append_left _ (List.mem_of_getElem? (i := 0) rfl))) (List.mem_cons_of_mem _ (List.mem_append_left _ (List.mem_of_getElem? (i := 1) rfl))) (List.mem_cons_of_mem _ (List.mem_append_left _ (List.mem_of_getElem? (i := 2) rfl))) (List.mem_cons_of_mem _ (List.mem_append_left _ (List.mem_of_getElem? (i := 3) rfl))) (Nat.le_of_ble_eq_true rfl) (Nat.le_of_ble_eq_true rfl) (Nat.le_of_ble_eq_true rfl) (Nat.le_of_ble_eq_true rfl) dX2_begin_5 ?_
  refine g_topi (fun y2542 ey2542 => ?_)
  replace hF := FE.lt hF ey2542
  have k2543 : (16 : Int32).toInt = 16 := rfl
  have hy2542 := i32_min ey2542
  have b2544l := Int32.le_toInt y2542
  have b2544h := Int32.toInt_lt y2542
  refine g_mmax hk (List.mem_cons_of_mem _ (List.mem_append_left _ (List.mem_of_getElem? (i := 4) rfl))) (List.mem_cons_of_mem _ (List.mem_append_left _ (List.mem_of_getElem? (i := 5) rfl))) (List.mem_cons_of_mem _ (List.mem_append_left _ (List.mem_of_getElem? (i := 2) rfl))) (List.mem_cons_of_mem _ (List.mem_append_left _ (List.mem_of_getElem? (i := 6) rfl))) (Nat.le_of_ble_eq_true rfl) (Nat.le_of_ble_eq_true rfl) (Nat.le_of_ble_eq_true rfl) (Nat.le_of_ble_eq_true rfl) dX2_begin_8 ?_
  refine g_topi (fun y2545 ey2545 => ?_)
  replace hF := FE.lt hF ey2545
  have k2546 : (1 : Int32).toInt = 1 := rfl
  have hy2545 := i32_max ey2545
  refine pX_i30 hk hin2 (List.mem_cons_of_mem _ (List.mem_append_left _ (List.mem_of_getElem? (i := 7) rfl))) dX2_begin_11 ?_
  refine g_aload_n hk dX2_begin_14 rfl ?_
  refine g_iconst (v := 0) hk dX2_begin_15 (by decide) ?_
  refine g_iload_n hk dX2_begin_16 rfl ?_
  have b2547l := Int32.le_toInt z2
  have b2547h := Int32.toInt_lt z2
  refine g_mmax hk (List.mem_cons_of_mem _ (List.mem_append_left _ (List.mem_of_getElem? (i := 4) rfl))) (List.mem_cons_of_mem _ (List.mem_append_left _ (List.mem_of_getElem? (i := 5) rfl))) (List.mem_cons_of_mem _ (List.mem_append_left _ (List.mem_of_getElem? (i := 2) rfl))) (List.mem_cons_of_mem _ (List.mem_append_left _ (List.mem_of_getElem? (i := 6) rfl))) (Nat.le_of_ble_eq_true rfl) (Nat.le_of_ble_eq_true rfl) (Nat.le_of_ble_eq_true rfl) (Nat.le_of_ble_eq_true rfl) dX2_begin_17 ?_
  refine g_topi (fun y2548 ey2548 => ?_)
  replace hF := FE.lt hF ey2548
  have k2549 : (0 : Int32).toInt = 0 := rfl
  have hy2548 := i32_max ey2548
  refine pX_i31 hk hin2 (List.mem_cons_of_mem _ (List.mem_append_left _ (List.mem_of_getElem? (i := 8) rfl))) dX2_begin_20 ?_
  refine g_aload_n hk dX2_begin_23 rfl ?_
  refine g_iload_n hk dX2_begin_24 rfl ?_
  refine g_iconst (v := 1) hk dX2_begin_25 (by decide) ?_
  have b2550l := Int32.le_toInt z3
  have b2550h := Int32.toInt_lt z3
  refine g_icmp_ne (tgt := 33) (a := z3.toInt) (b := 1) hk dX2_begin_26 (by decide) rfl rfl (fun c2551 => ?_) (fun c2551 => ?_)
  · skip
    replace hF := FE.pos hF c2551
    refine g_iconst (v := 0) hk dX2_begin_33 (by decide) ?_
    refine pX_i32 hk hin2 (List.mem_cons_of_mem _ (List.mem_append_left _ (List.mem_of_getElem? (i := 9) rfl))) ⟨rfl, rfl⟩ dX2_begin_34 ?_
    have b2552l := Int32.le_toInt y2548
    have b2552h := Int32.toInt_lt y2548
    exact g_vret hk hR ⟨(upd (upd (upd I 30 y2545) 31 y2548) 32 0), A, (show Md [30, 31, 32] I (upd (upd (upd I 30 y2545) 31 y2548) 32 0) from (Md.up (Md.up (Md.up Md.rf rfl) rfl) rfl)), (show Md [] A A from Md.rf), ⟨(IvX_f0 (I := I) (A := A) hIv), (IvX_f18 (I := I) (A := A) hIv), (show 1 ≤ y2545.toInt ∧ y2545.toInt ≤ 16 from ⟨by omega, by omega⟩), (show 0 ≤ y2548.toInt ∧ y2548.toInt ≤ 2147483647 from ⟨by omega, by omega⟩), (IvX_a4 (I := I) (A := A) hIv), (IvX_a9 (I := I) (A := A) hIv), trivial⟩, hF, rfl, rfl⟩ dX2_begin_37
  · skip
    replace hF := FE.neg hF c2551
    refine g_iconst (v := 1) hk dX2_begin_29 (by decide) ?_
    refine g_goto (tgt := 34) hk dX2_begin_30 (by decide) ?_
    refine pX_i32 hk hin2 (List.mem_cons_of_mem _ (List.mem_append_left _ (List.mem_of_getElem? (i := 9) rfl))) ⟨rfl, rfl⟩ dX2_begin_34 ?_
    have b2553l := Int32.le_toInt y2548
    have b2553h := Int32.toInt_lt y2548
    exact g_vret hk hR ⟨(upd (upd (upd I 30 y2545) 31 y2548) 32 1), A, (show Md [30, 31, 32] I (upd (upd (upd I 30 y2545) 31 y2548) 32 1) from (Md.up (Md.up (Md.up Md.rf rfl) rfl) rfl)), (show Md [] A A from Md.rf), ⟨(IvX_f0 (I := I) (A := A) hIv), (IvX_f18 (I := I) (A := A) hIv), (show 1 ≤ y2545.toInt ∧ y2545.toInt ≤ 16 from ⟨by omega, by omega⟩), (show 0 ≤ y2548.toInt ∧ y2548.toInt ≤ 2147483647 from ⟨by omega, by omega⟩), (IvX_a4 (I := I) (A := A) hIv), (IvX_a9 (I := I) (A := A) hIv), trivial⟩, hF, rfl, rfl⟩ dX2_begin_37
noncomputable def fX0_begin (I : Nat → Int32) (A : Nat → Nat → Int32) (z1 : Int32) (z2 : Int32) : Int32 × (Nat → Int32) × (Nat → Nat → Int32) := f_lt (fX7_valueOf_2 (upd I 28 z1) A 2) fun y2540 => f_bdX (fX2_begin (upd I 28 z1) A z1 z2 y2540) fun _ I2555 A2555 => (0, I2555, A2555)
def wo_k214_X0_begin : List Cond := [Cond.fieldLink RX0 77 "WarpDesk$Bench" "length" "I", Cond.fieldLink RX0 12 "WarpDesk$Bench" "fit" "LWarpDesk$Fit;", Cond.fieldLink RX0 26 "WarpDesk$Bench" "settings" "LWarpDesk$Settings;", Cond.methodLink RX0 49 yX7_valueOf, Cond.instanceMethod yX7_valueOf, Cond.selects RX7 yX7_valueOf yX7_valueOf, Cond.initialized RX7, Cond.methodLink RX0 85 yX2_begin, Cond.instanceMethod yX2_begin, Cond.selects RX2 yX2_begin yX2_begin, Cond.initialized RX2]
def wz_k214_X0_begin : List Cond := .code yX0_begin cX0_begin 3 none :: (wo_k214_X0_begin ++ (wsX00 ++ (wz_k174_X7_valueOf ++ (wz_k215_X2_begin ++ ([] : List Cond)))))
theorem zg_k214_X0_begin : ∀ w ∈ wz_k214_X0_begin, goodWord w = true := zg_cons rfl (zg_app (by decide +kernel) (zg_app zgU_wsX00 (zg_app zg_k174_X7_valueOf (zg_app zg_k215_X2_begin zg_nil))))
theorem zi_k214_X0_begin : ∀ w ∈ wz_k214_X0_begin, w ∈ lw_tbl := zi_cons zw_937 (zi_app (zi_cons zw_384 (zi_cons zw_380 (zi_cons zw_378 (zi_cons zw_933 (zi_cons zw_786 (zi_cons zw_787 (zi_cons zw_107 (zi_cons zw_938 (zi_cons zw_939 (zi_cons zw_940 (zi_cons zw_112 zi_nil))))))))))) (zi_app inX0 (zi_app zi_k174_X7_valueOf (zi_app zi_k215_X2_begin zi_nil))))
set_option maxHeartbeats 4000000 in
set_option maxRecDepth 100000 in
theorem k214_X0_begin (l : Launch) (D : va_G) (zt : Nat × Nat × Nat × (Nat → Nat) × (Nat → Nat)) (q : Nat → Nat) (d : Nat → ClassId) (I : Nat → Int32) (A : Nat → Nat → Int32) (z1 : Int32) (z2 : Int32) (hIv : IvX I A) : GM l D zt (tyX d) yX0_begin wz_k214_X0_begin ({ frames := 2, cells := 0, slots := 0, locals := 38 } : Room) [.ref (q 37), .int z1, .int z2] (wX q d I A) (fun v _ w' => ∃ (I' : Nat → Int32) (A' : Nat → Nat → Int32), Md [28, 30, 31, 32] I I' ∧ Md [] A A' ∧ IvX I' A' ∧ FE (fX0_begin I A z1 z2) (0, I', A') ∧ v = none ∧ w' = wX q d I' A') 0 0 := by
  refine GM.of (cc := cX0_begin) (maxL := 3) (ret := none) (own := RX0) (lv := [(0, .ref (q 37)), (1, .int z1), (2, .int z2)]) (by decide) rfl rfl (Nat.le_of_ble_eq_true rfl) rfl (fun κ sz hk hR hN => ?_)
  have hin0 : ∀ w ∈ u_ws RX0 TX0 5, w ∈ wz_k214_X0_begin := fun w h => (List.mem_cons_of_mem _ (List.mem_append_right _ (List.mem_append_left _ h)))
  have hF : FE (fX0_begin I A z1 z2) (fX0_begin I A z1 z2) := FE.rf
  refine g_aload_n hk dX0_begin_0 rfl ?_
  refine g_iload_n hk dX0_begin_1 rfl ?_
  refine pX_i28 hk hin0 (List.mem_cons_of_mem _ (List.mem_append_left _ (List.mem_of_getElem? (i := 0) rfl))) dX0_begin_2 ?_
  refine g_aload_n hk dX0_begin_5 rfl ?_
  refine gX_r37_3 hk hin0 (List.mem_cons_of_mem _ (List.mem_append_left _ (List.mem_of_getElem? (i := 1) rfl))) dX0_begin_6 ?_
  refine g_iload_n hk dX0_begin_9 rfl ?_
  refine g_iload_n hk dX0_begin_10 rfl ?_
  refine g_aload_n hk dX0_begin_11 rfl ?_
  refine gX_r37_2 hk hin0 (List.mem_cons_of_mem _ (List.mem_append_left _ (List.mem_of_getElem? (i := 2) rfl))) dX0_begin_12 ?_
  refine g_iconst (v := 2) hk dX0_begin_15 (by decide) ?_
  have k2539 : (2 : Int32).toInt = 2 := rfl
  refine g_callV (n := 1) hk (k194_X7_valueOf l D zt q d (upd I 28 z1) A 2 ⟨(IvX_f0 (I := I) (A := A) hIv), (IvX_f18 (I := I) (A := A) hIv), (IvX_f30 (I := I) (A := A) hIv), (IvX_f31 (I := I) (A := A) hIv), (IvX_a4 (I := I) (A := A) hIv), (IvX_a9 (I := I) (A := A) hIv), trivial⟩) (SP.same _) (fun _ h => h) (gi_V (List.mem_cons_of_mem _ (List.mem_append_left _ (List.mem_of_getElem? (i := 3) rfl))) (List.mem_cons_of_mem _ (List.mem_append_left _ (List.mem_of_getElem? (i := 4) rfl))) (List.mem_cons_of_mem _ (List.mem_append_left _ (List.mem_of_getElem? (i := 5) rfl))) (List.mem_cons_of_mem _ (List.mem_append_left _ (List.mem_of_getElem? (i := 6) rfl))) (gi_sub (fun w h => (List.mem_cons_of_mem _ (List.mem_append_right _ (List.mem_append_right _ (List.mem_append_left _ h))))) zg_k174_X7_valueOf)) rfl rfl rfl (by decide +kernel) ⟨Nat.le_of_ble_eq_true rfl, Nat.le_of_ble_eq_true rfl⟩ 18 rfl rfl rfl rfl (Nat.le_of_ble_eq_true rfl) ⟨Nat.le_of_ble_eq_true rfl, Nat.le_of_ble_eq_true rfl⟩ dX0_begin_16 (fun v ty' w' hp hk' => ?_)
  obtain ⟨y2540, hC, rfl, rfl⟩ := hp
  replace hF := FE.lt hF (fe_s hC)
  show GW κ 3 0 0 (wX q d (upd I 28 z1) A) 19 [(0, .ref (q 37)), (1, .int z1), (2, .int z2)] [.int y2540, .int z2, .int z1, .ref (q 38)]
  refine g_callV (n := 3) hk (k215_X2_begin l D zt q d (upd I 28 z1) A z1 z2 y2540 ⟨(IvX_f0 (I := I) (A := A) hIv), (IvX_f18 (I := I) (A := A) hIv), (IvX_f30 (I := I) (A := A) hIv), (IvX_f31 (I := I) (A := A) hIv), (IvX_a4 (I := I) (A := A) hIv), (IvX_a9 (I := I) (A := A) hIv), trivial⟩) (SP.same _) (fun _ h => h) (gi_V (List.mem_cons_of_mem _ (List.mem_append_left _ (List.mem_of_getElem? (i := 7) rfl))) (List.mem_cons_of_mem _ (List.mem_append_left _ (List.mem_of_getElem? (i := 8) rfl))) (List.mem_cons_of_mem _ (List.mem_append_left _ (List.mem_of_getElem? (i := 9) rfl))) (List.mem_cons_of_mem _ (List.mem_append_left _ (List.mem_of_getElem? (i := 10) rfl))) (gi_sub (fun w h => (List.mem_cons_of_mem _ (List.mem_append_right _ (List.mem_append_right _ (List.mem_append_right _ (List.mem_append_left _ h)))))) zg_k215_X2_begin)) rfl rfl rfl (by decide +kernel) ⟨Nat.le_of_ble_eq_true rfl, Nat.le_of_ble_eq_true rfl⟩ 38 rfl rfl rfl rfl (Nat.le_of_ble_eq_true rfl) ⟨Nat.le_of_ble_eq_true rfl, Nat.le_of_ble_eq_true rfl⟩ dX0_begin_19 (fun v ty' w' hp hk' => ?_)
  obtain ⟨I2555, A2555, hI2555, hA2555, hV2555, hC, rfl, rfl⟩ := hp
  replace hF := FE.bdX hF hC
  show GW κ 3 0 0 (wX q d I2555 A2555) 22 [(0, .ref (q 37)), (1, .int z1), (2, .int z2)] []
  exact g_vret hk hR ⟨I2555, A2555, (show Md [28, 30, 31, 32] I I2555 from (Md.tr (Md.up Md.rf rfl) hI2555 rfl)), (show Md [] A A2555 from (Md.tr Md.rf hA2555 rfl)), hV2555, hF, rfl, rfl⟩ dX0_begin_22
noncomputable def bX6_copyWindow_3 (z2 : Int32) (z1 : Int32) : (Int32 → (Nat → Int32) → (Nat → Nat → Int32) → (Int32 × (Nat → Int32) × (Nat → Nat → Int32))) → Int32 → (Nat → Int32) → (Nat → Nat → Int32) → (Int32 × (Nat → Int32) × (Nat → Nat → Int32)) := fun kk2595 x2558 I2563 A2563 => if z2.toInt ≤ x2558.toInt then (0, I2563, A2563) else if 16 ≤ x2558.toInt then (0, I2563, A2563) else f_lt (z1 + x2558) fun y2601 => f_lt (fX6_valueAt I2563 A2563 y2601) fun y2602 => f_lt (x2558 + Int32.ofInt 1) fun y2603 => kk2595 y2603 I2563 (up3 A2563 21 (x2558.toNatClampNeg) y2602)
noncomputable def fX6_copyWindow (I : Nat → Int32) (A : Nat → Nat → Int32) (z1 : Int32) (z2 : Int32) : Int32 × (Nat → Int32) × (Nat → Nat → Int32) := itr_iIA dfX (bX6_copyWindow_3 z2 z1) FU 0 I A
def wz_k216_X6_copyWindow : List Cond := .code yX6_copyWindow cX6_copyWindow 5 none :: (wo_k188_X6_hasReading ++ (wz_k179_X6_valueAt ++ ([] : List Cond)))
theorem zg_k216_X6_copyWindow : ∀ w ∈ wz_k216_X6_copyWindow, goodWord w = true := zg_cons rfl (zg_app (by decide +kernel) (zg_app zg_k179_X6_valueAt zg_nil))
theorem zi_k216_X6_copyWindow : ∀ w ∈ wz_k216_X6_copyWindow, w ∈ lw_tbl := zi_cons zw_947 (zi_app (zi_cons zw_843 (zi_cons zw_807 (zi_cons zw_808 (zi_cons zw_109 zi_nil)))) (zi_app zi_k179_X6_valueAt zi_nil))
set_option maxHeartbeats 4000000 in
set_option maxRecDepth 100000 in
theorem k216_X6_copyWindow (l : Launch) (D : va_G) (zt : Nat × Nat × Nat × (Nat → Nat) × (Nat → Nat)) (q : Nat → Nat) (d : Nat → ClassId) (I : Nat → Int32) (A : Nat → Nat → Int32) (z1 : Int32) (z2 : Int32) (hIv : IvX I A) : GM l D zt (tyX d) yX6_copyWindow wz_k216_X6_copyWindow ({ frames := 1, cells := 0, slots := 0, locals := 21 } : Room) [.ref (q 13), .int z1, .int z2, .ref (q 39)] (wX q d I A) (fun v _ w' => ∃ (I' : Nat → Int32) (A' : Nat → Nat → Int32), Md [] I I' ∧ Md [21] A A' ∧ IvX I' A' ∧ FE (fX6_copyWindow I A z1 z2) (0, I', A') ∧ v = none ∧ w' = wX q d I' A') 0 0 := by
  refine GM.of (cc := cX6_copyWindow) (maxL := 5) (ret := none) (own := RX6) (lv := [(0, .ref (q 13)), (1, .int z1), (2, .int z2), (3, .ref (q 39))]) (by decide) rfl rfl (Nat.le_of_ble_eq_true rfl) rfl (fun κ sz hk hR hN => ?_)
  have hF : FE (fX6_copyWindow I A z1 z2) (fX6_copyWindow I A z1 z2) := FE.rf
  refine g_iconst (v := 0) hk dX6_copyWindow_0 (by decide) ?_
  refine g_istore (lv' := [(4, .int 0), (0, .ref (q 13)), (1, .int z1), (2, .int z2), (3, .ref (q 39))]) hk dX6_copyWindow_1 (by decide) rfl ?_
  have lp2592 : ∀ (n2593 : Nat) (x2558 : Int32) (I2563 : Nat → Int32) (A2563 : Nat → Nat → Int32), (Md [] I I2563) → (Md [21] A A2563) → (IvX I2563 A2563) → (0 ≤ x2558.toInt) → (x2558.toInt ≤ 16) → (z2.toInt + 1 - x2558.toInt < (n2593 : Int)) → (0 < n2593) → (FE (fX6_copyWindow I A z1 z2) (itr_iIA dfX (bX6_copyWindow_3 z2 z1) n2593 x2558 I2563 A2563)) → GW κ 5 0 0 (wX q d I2563 A2563) 3 [(4, .int x2558), (0, .ref (q 13)), (1, .int z1), (2, .int z2), (3, .ref (q 39))] [] := by
    intro n2593
    induction n2593 with
    | zero =>
      intro x2558 I2563 A2563 hI2563 hA2563 hV2563 h2590 h2591 m2594 m2594z hF
      exact absurd m2594z (Nat.lt_irrefl 0)
    | succ n2593 ih2596 =>
      intro x2558 I2563 A2563 hI2563 hA2563 hV2563 h2590 h2591 m2594 m2594z hF
      replace hF := FE.itr_iIA hF
      refine g_iload hk dX6_copyWindow_3 rfl ?_
      refine g_iload_n hk dX6_copyWindow_5 rfl ?_
      have b2597l := Int32.le_toInt z2
      have b2597h := Int32.toInt_lt z2
      refine g_icmp_ge (tgt := 34) (a := x2558.toInt) (b := z2.toInt) hk dX6_copyWindow_6 (by decide) rfl rfl (fun c2598 => ?_) (fun c2598 => ?_)
      · skip
        replace hF := FE.pos hF c2598
        exact g_vret hk hR ⟨I2563, A2563, (show Md [] I I2563 from (Md.tr Md.rf hI2563 rfl)), (show Md [21] A A2563 from (Md.tr Md.rf hA2563 rfl)), hV2563, hF, rfl, rfl⟩ dX6_copyWindow_34
      · skip
        replace hF := FE.neg hF c2598
        refine g_iload hk dX6_copyWindow_9 rfl ?_
        refine g_aload_n hk dX6_copyWindow_11 rfl ?_
        refine nX_21 hk dX6_copyWindow_12 ?_
        refine g_icmp_ge (tgt := 34) (a := x2558.toInt) (b := 16) hk dX6_copyWindow_13 (by decide) rfl rfl (fun c2599 => ?_) (fun c2599 => ?_)
        · skip
          replace hF := FE.pos hF c2599
          exact g_vret hk hR ⟨I2563, A2563, (show Md [] I I2563 from (Md.tr Md.rf hI2563 rfl)), (show Md [21] A A2563 from (Md.tr Md.rf hA2563 rfl)), hV2563, hF, rfl, rfl⟩ dX6_copyWindow_34
        · skip
          replace hF := FE.neg hF c2599
          refine g_aload_n hk dX6_copyWindow_16 rfl ?_
          refine g_iload hk dX6_copyWindow_17 rfl ?_
          refine g_aload_n hk dX6_copyWindow_19 rfl ?_
          refine g_iload_n hk dX6_copyWindow_20 rfl ?_
          refine g_iload hk dX6_copyWindow_21 rfl ?_
          have b2600l := Int32.le_toInt z1
          have b2600h := Int32.toInt_lt z1
          refine g_iadd hk dX6_copyWindow_23 ?_
          refine g_topi (fun y2601 ey2601 => ?_)
          replace hF := FE.lt hF ey2601
          refine g_callV (n := 1) hk (k179_X6_valueAt l D zt q d I2563 A2563 y2601 hV2563) (SP.same _) (fun _ h => h) (gi_V (List.mem_cons_of_mem _ (List.mem_append_left _ (List.mem_of_getElem? (i := 0) rfl))) (List.mem_cons_of_mem _ (List.mem_append_left _ (List.mem_of_getElem? (i := 1) rfl))) (List.mem_cons_of_mem _ (List.mem_append_left _ (List.mem_of_getElem? (i := 2) rfl))) (List.mem_cons_of_mem _ (List.mem_append_left _ (List.mem_of_getElem? (i := 3) rfl))) (gi_sub (fun w h => (List.mem_cons_of_mem _ (List.mem_append_right _ (List.mem_append_left _ h)))) zg_k179_X6_valueAt)) rfl rfl rfl (by decide +kernel) ⟨Nat.le_of_ble_eq_true rfl, Nat.le_of_ble_eq_true rfl⟩ 13 rfl rfl rfl rfl (Nat.le_of_ble_eq_true rfl) ⟨Nat.le_of_ble_eq_true rfl, Nat.le_of_ble_eq_true rfl⟩ dX6_copyWindow_24 (fun v ty' w' hp hk' => ?_)
          obtain ⟨y2602, hC, rfl, rfl⟩ := hp
          replace hF := FE.lt hF (fe_s hC)
          show GW κ 5 0 0 (wX q d I2563 A2563) 27 [(4, .int x2558), (0, .ref (q 13)), (1, .int z1), (2, .int z2), (3, .ref (q 39))] [.int y2602, .int x2558, .ref (q 39)]
          refine sX_21 (j := x2558.toNatClampNeg) hk (vp_in_iff.mpr ⟨by omega, by omega⟩) rfl dX6_copyWindow_27 ?_
          obtain ⟨y2603, ey2603⟩ : ∃ y : Int32, y = x2558 + Int32.ofInt 1 := ⟨_, rfl⟩
          replace hF := FE.lt hF ey2603
          have hy2603 : y2603.toInt = x2558.toInt + 1 := i32_add ey2603 rfl (by decide) (by omega) (by omega)
          refine g_iinc (v := y2603) (lv' := [(4, .int y2603), (0, .ref (q 13)), (1, .int z1), (2, .int z2), (3, .ref (q 39))]) hk 0 dX6_copyWindow_28 rfl ey2603.symm (by decide) rfl ?_
          refine g_goto (tgt := 3) hk dX6_copyWindow_31 (by decide) ?_
          exact g_lv (List.forall_mem_cons.mpr ⟨List.mem_of_getElem? (i := 0) rfl, (List.forall_mem_cons.mpr ⟨List.mem_of_getElem? (i := 1) rfl, (List.forall_mem_cons.mpr ⟨List.mem_of_getElem? (i := 2) rfl, (List.forall_mem_cons.mpr ⟨List.mem_of_getElem? (i := 3) rfl, (List.forall_mem_cons.mpr ⟨List.mem_of_getElem? (i := 4) rfl, (fun _ h => absurd h List.not_mem_nil)⟩)⟩)⟩)⟩)⟩) (ih2596 y2603 I2563 (up3 A2563 21 (x2558.toNatClampNeg) y2602) (show Md [] I I2563 from Md.tr hI2563 (show Md [] I2563 I2563 from Md.rf) rfl) (show Md [21] A (up3 A2563 21 (x2558.toNatClampNeg) y2602) from Md.tr hA2563 (show Md [21] A2563 (up3 A2563 21 (x2558.toNatClampNeg) y2602) from (Md.up3 Md.rf rfl)) rfl) ⟨(IvX_f0 (I := I2563) (A := A2563) hV2563), (IvX_f18 (I := I2563) (A := A2563) hV2563), (IvX_f30 (I := I2563) (A := A2563) hV2563), (IvX_f31 (I := I2563) (A := A2563) hV2563), (IvX_a4 (I := I2563) (A := A2563) hV2563), (IvX_a9 (I := I2563) (A := A2563) hV2563), trivial⟩ (by omega) (by omega) (by omega) (by omega) hF)
  have k2605 : (0 : Int32).toInt = 0 := rfl
  have b2606 := Int32.le_toInt z2
  have b2607 := Int32.toInt_lt z2
  have n2604a : z2.toInt + 1 - 0 < (FU : Int) := by have := FU_eq; omega
  have n2604b : 0 < FU := by have := FU_eq; omega
  exact lp2592 FU 0 I A Md.rf Md.rf hIv (by omega) (by omega) n2604a n2604b hF
noncomputable def bX2_spreadAll_52 (I : Nat → Int32) (y2928 : Int32) (x2619 : Int32) : (Int32 → (Nat → Int32) → (Nat → Nat → Int32) → (Int32 × (Nat → Int32) × (Nat → Nat → Int32))) → Int32 → (Nat → Int32) → (Nat → Nat → Int32) → (Int32 × (Nat → Int32) × (Nat → Nat → Int32)) := fun kk2983 x2929 I2935 A2935 => if (I 30).toInt ≤ x2929.toInt then (0, I2935, A2935) else if y2928.toInt ≠ 0 then f_lt ((A2935 21 x2929.toNatClampNeg) - x2619) fun y2989 => f_lt ((1000 : Int32) * y2989) fun y2991 => f_lt (y2991 / y2928) fun y2992 => f_lt (x2929 + Int32.ofInt 1) fun y2993 => kk2983 y2993 I2935 (up3 A2935 21 (x2929.toNatClampNeg) y2992) else f_lt (x2929 + Int32.ofInt 1) fun y2995 => kk2983 y2995 I2935 (up3 A2935 21 (x2929.toNatClampNeg) 0)
noncomputable def bX2_spreadAll_11 (I : Nat → Int32) (A : Nat → Nat → Int32) : (Int32 → Int32 → Int32 → (Int32 × (Nat → Int32) × (Nat → Nat → Int32))) → Int32 → Int32 → Int32 → (Int32 × (Nat → Int32) × (Nat → Nat → Int32)) := fun kk2922 x2617 x2618 x2619 => if (I 30).toInt ≤ x2617.toInt then f_lt (x2618 - x2619) fun y2928 => itr_iIA dfX (bX2_spreadAll_52 I y2928 x2619) FU 0 I A else f_lt (if (A 21 x2617.toNatClampNeg) < x2619 then (A 21 x2617.toNatClampNeg) else x2619) fun y3000 => f_lt (if x2618 < (A 21 x2617.toNatClampNeg) then (A 21 x2617.toNatClampNeg) else x2618) fun y3002 => f_lt (x2617 + Int32.ofInt 1) fun y3003 => kk2922 y3003 y3002 y3000
noncomputable def fX2_spreadAll (I : Nat → Int32) (A : Nat → Nat → Int32) : Int32 × (Nat → Int32) × (Nat → Nat → Int32) := itr_iii dfX (bX2_spreadAll_11 I A) FU 1 (A 21 0) (A 21 0)
def wo_k218_X2_spreadAll : List Cond := [Cond.fieldLink RX2 24 "WarpDesk$Fit" "length" "I", Cond.methodLink RX2 28 Lib.Math.min.name, Cond.static Lib.Math.min.name, Cond.initialized "java/lang/Math", Cond.code Lib.Math.min.name Lib.Math.min.code 2 (some .int), Cond.methodLink RX2 34 Lib.Math.max.name, Cond.static Lib.Math.max.name, Cond.code Lib.Math.max.name Lib.Math.max.code 2 (some .int)]
def wz_k218_X2_spreadAll : List Cond := .code yX2_spreadAll cX2_spreadAll 6 none :: (wo_k218_X2_spreadAll ++ (wsX20 ++ ([] : List Cond)))
theorem zg_k218_X2_spreadAll : ∀ w ∈ wz_k218_X2_spreadAll, goodWord w = true := zg_cons rfl (zg_app (by decide +kernel) (zg_app zgU_wsX20 zg_nil))
theorem zi_k218_X2_spreadAll : ∀ w ∈ wz_k218_X2_spreadAll, w ∈ lw_tbl := zi_cons zw_964 (zi_app (zi_cons zw_343 (zi_cons zw_942 (zi_cons zw_829 (zi_cons zw_120 (zi_cons zw_830 (zi_cons zw_943 (zi_cons zw_920 (zi_cons zw_921 zi_nil)))))))) (zi_app inX2 zi_nil))
set_option maxHeartbeats 4000000 in
set_option maxRecDepth 100000 in
theorem k218_X2_spreadAll (l : Launch) (D : va_G) (zt : Nat × Nat × Nat × (Nat → Nat) × (Nat → Nat)) (q : Nat → Nat) (d : Nat → ClassId) (I : Nat → Int32) (A : Nat → Nat → Int32) (hIv : IvX I A) : GM l D zt (tyX d) yX2_spreadAll wz_k218_X2_spreadAll ({ frames := 1, cells := 0, slots := 0, locals := 13 } : Room) [.ref (q 38), .ref (q 39)] (wX q d I A) (fun v _ w' => ∃ (I' : Nat → Int32) (A' : Nat → Nat → Int32), Md [] I I' ∧ Md [21] A A' ∧ IvX I' A' ∧ FE (fX2_spreadAll I A) (0, I', A') ∧ v = none ∧ w' = wX q d I' A') 0 0 := by
  refine GM.of (cc := cX2_spreadAll) (maxL := 6) (ret := none) (own := RX2) (lv := [(0, .ref (q 38)), (1, .ref (q 39))]) (by decide) rfl rfl (Nat.le_of_ble_eq_true rfl) rfl (fun κ sz hk hR hN => ?_)
  have hin2 : ∀ w ∈ u_ws RX2 TX2 10, w ∈ wz_k218_X2_spreadAll := fun w h => (List.mem_cons_of_mem _ (List.mem_append_right _ (List.mem_append_left _ h)))
  have hF : FE (fX2_spreadAll I A) (fX2_spreadAll I A) := FE.rf
  refine g_aload_n hk dX2_spreadAll_0 rfl ?_
  refine g_iconst (v := 0) hk dX2_spreadAll_1 (by decide) ?_
  refine lX_21 (v := (A 21 0)) hk (vp_in_iff.mpr ⟨by decide, by decide⟩) rfl dX2_spreadAll_2 ?_
  refine g_istore_n (lv' := [(2, .int (A 21 0)), (0, .ref (q 38)), (1, .ref (q 39))]) hk dX2_spreadAll_3 (by decide) rfl ?_
  refine g_aload_n hk dX2_spreadAll_4 rfl ?_
  refine g_iconst (v := 0) hk dX2_spreadAll_5 (by decide) ?_
  refine lX_21 (v := (A 21 0)) hk (vp_in_iff.mpr ⟨by decide, by decide⟩) rfl dX2_spreadAll_6 ?_
  refine g_istore_n (lv' := [(3, .int (A 21 0)), (2, .int (A 21 0)), (0, .ref (q 38)), (1, .ref (q 39))]) hk dX2_spreadAll_7 (by decide) rfl ?_
  refine g_iconst (v := 1) hk dX2_spreadAll_8 (by decide) ?_
  refine g_istore (lv' := [(4, .int 1), (3, .int (A 21 0)), (2, .int (A 21 0)), (0, .ref (q 38)), (1, .ref (q 39))]) hk dX2_spreadAll_9 (by decide) rfl ?_
  have lp2919 : ∀ (n2920 : Nat) (x2617 : Int32) (x2618 : Int32) (x2619 : Int32), (1 ≤ x2617.toInt) → (x2617.toInt ≤ 16) → (17 - x2617.toInt < (n2920 : Int)) → (0 < n2920) → (FE (fX2_spreadAll I A) (itr_iii dfX (bX2_spreadAll_11 I A) n2920 x2617 x2618 x2619)) → GW κ 6 0 0 (wX q d I A) 11 [(4, .int x2617), (3, .int x2618), (2, .int x2619), (0, .ref (q 38)), (1, .ref (q 39))] [] := by
    intro n2920
    induction n2920 with
    | zero =>
      intro x2617 x2618 x2619 h2917 h2918 m2921 m2921z hF
      exact absurd m2921z (Nat.lt_irrefl 0)
    | succ n2920 ih2923 =>
      intro x2617 x2618 x2619 h2917 h2918 m2921 m2921z hF
      replace hF := FE.itr_iii hF
      refine g_iload hk dX2_spreadAll_11 rfl ?_
      refine g_aload_n hk dX2_spreadAll_13 rfl ?_
      refine gX_i30 (v := (I 30)) hk hin2 (List.mem_cons_of_mem _ (List.mem_append_left _ (List.mem_of_getElem? (i := 0) rfl))) dX2_spreadAll_14 rfl ?_
      have f2924 := IvX_f30 hIv
      refine g_icmp_ge (tgt := 44) (a := x2617.toInt) (b := (I 30).toInt) hk dX2_spreadAll_17 (by decide) rfl rfl (fun c2925 => ?_) (fun c2925 => ?_)
      · skip
        replace hF := FE.pos hF c2925
        refine g_iload_n hk dX2_spreadAll_44 rfl ?_
        refine g_iload_n hk dX2_spreadAll_45 rfl ?_
        have b2926l := Int32.le_toInt x2618
        have b2926h := Int32.toInt_lt x2618
        have b2927l := Int32.le_toInt x2619
        have b2927h := Int32.toInt_lt x2619
        refine g_isub hk dX2_spreadAll_46 ?_
        refine g_topi (fun y2928 ey2928 => ?_)
        replace hF := FE.lt hF ey2928
        have hy2928 := i32_sub0 ey2928
        refine g_istore (lv' := [(4, .int y2928), (3, .int x2618), (2, .int x2619), (0, .ref (q 38)), (1, .ref (q 39))]) hk dX2_spreadAll_47 (by decide) rfl ?_
        refine g_iconst (v := 0) hk dX2_spreadAll_49 (by decide) ?_
        refine g_istore (lv' := [(5, .int 0), (4, .int y2928), (3, .int x2618), (2, .int x2619), (0, .ref (q 38)), (1, .ref (q 39))]) hk dX2_spreadAll_50 (by decide) rfl ?_
        have lp2980 : ∀ (n2981 : Nat) (x2929 : Int32) (I2935 : Nat → Int32) (A2935 : Nat → Nat → Int32), (Md [] I I2935) → (Md [21] A A2935) → (IvX I2935 A2935) → (0 ≤ x2929.toInt) → (x2929.toInt ≤ 16) → (17 - x2929.toInt < (n2981 : Int)) → (0 < n2981) → (FE (fX2_spreadAll I A) (itr_iIA dfX (bX2_spreadAll_52 I y2928 x2619) n2981 x2929 I2935 A2935)) → GW κ 6 0 0 (wX q d I2935 A2935) 52 [(5, .int x2929), (4, .int y2928), (3, .int x2618), (2, .int x2619), (0, .ref (q 38)), (1, .ref (q 39))] [] := by
          intro n2981
          induction n2981 with
          | zero =>
            intro x2929 I2935 A2935 hI2935 hA2935 hV2935 h2978 h2979 m2982 m2982z hF
            exact absurd m2982z (Nat.lt_irrefl 0)
          | succ n2981 ih2984 =>
            intro x2929 I2935 A2935 hI2935 hA2935 hV2935 h2978 h2979 m2982 m2982z hF
            replace hF := FE.itr_iIA hF
            refine g_iload hk dX2_spreadAll_52 rfl ?_
            refine g_aload_n hk dX2_spreadAll_54 rfl ?_
            refine gX_i30 (v := (I 30)) hk hin2 (List.mem_cons_of_mem _ (List.mem_append_left _ (List.mem_of_getElem? (i := 0) rfl))) dX2_spreadAll_55 (hI2935 30 rfl) ?_
            refine g_icmp_ge (tgt := 93) (a := x2929.toInt) (b := (I 30).toInt) hk dX2_spreadAll_58 (by decide) rfl rfl (fun c2985 => ?_) (fun c2985 => ?_)
            · skip
              replace hF := FE.pos hF c2985
              exact g_vret hk hR ⟨I2935, A2935, (show Md [] I I2935 from (Md.tr Md.rf hI2935 rfl)), (show Md [21] A A2935 from (Md.tr Md.rf hA2935 rfl)), hV2935, hF, rfl, rfl⟩ dX2_spreadAll_93
            · skip
              replace hF := FE.neg hF c2985
              refine g_aload_n hk dX2_spreadAll_61 rfl ?_
              refine g_iload hk dX2_spreadAll_62 rfl ?_
              refine g_iload hk dX2_spreadAll_64 rfl ?_
              have b2986l := Int32.le_toInt y2928
              have b2986h := Int32.toInt_lt y2928
              refine g_if_ne (tgt := 73) (a := y2928.toInt) hk dX2_spreadAll_66 (by decide) rfl (fun c2987 => ?_) (fun c2987 => ?_)
              · skip
                replace hF := FE.pos hF c2987
                refine g_sipush (v := 1000) hk dX2_spreadAll_73 (by decide) ?_
                refine g_aload_n hk dX2_spreadAll_76 rfl ?_
                refine g_iload hk dX2_spreadAll_77 rfl ?_
                refine lX_21 (v := (A2935 21 x2929.toNatClampNeg)) hk (vp_in_iff.mpr ⟨by omega, by omega⟩) rfl dX2_spreadAll_79 ?_
                refine g_iload_n hk dX2_spreadAll_80 rfl ?_
                have b2988l := Int32.le_toInt (A2935 21 x2929.toNatClampNeg)
                have b2988h := Int32.toInt_lt (A2935 21 x2929.toNatClampNeg)
                refine g_isub hk dX2_spreadAll_81 ?_
                refine g_topi (fun y2989 ey2989 => ?_)
                replace hF := FE.lt hF ey2989
                have hy2989 := i32_sub0 ey2989
                have b2990l := Int32.le_toInt y2989
                have b2990h := Int32.toInt_lt y2989
                refine g_imul hk dX2_spreadAll_82 ?_
                refine g_topi (fun y2991 ey2991 => ?_)
                replace hF := FE.lt hF ey2991
                refine g_iload hk dX2_spreadAll_83 rfl ?_
                refine g_idiv hk dX2_spreadAll_85 (i32_ne0 (by omega)) ?_
                refine g_topi (fun y2992 ey2992 => ?_)
                replace hF := FE.lt hF ey2992
                refine sX_21 (j := x2929.toNatClampNeg) hk (vp_in_iff.mpr ⟨by omega, by omega⟩) rfl dX2_spreadAll_86 ?_
                obtain ⟨y2993, ey2993⟩ : ∃ y : Int32, y = x2929 + Int32.ofInt 1 := ⟨_, rfl⟩
                replace hF := FE.lt hF ey2993
                have hy2993 : y2993.toInt = x2929.toInt + 1 := i32_add ey2993 rfl (by decide) (by omega) (by omega)
                refine g_iinc (v := y2993) (lv' := [(5, .int y2993), (4, .int y2928), (3, .int x2618), (2, .int x2619), (0, .ref (q 38)), (1, .ref (q 39))]) hk 0 dX2_spreadAll_87 rfl ey2993.symm (by decide) rfl ?_
                refine g_goto (tgt := 52) hk dX2_spreadAll_90 (by decide) ?_
                exact g_lv (List.forall_mem_cons.mpr ⟨List.mem_of_getElem? (i := 0) rfl, (List.forall_mem_cons.mpr ⟨List.mem_of_getElem? (i := 1) rfl, (List.forall_mem_cons.mpr ⟨List.mem_of_getElem? (i := 2) rfl, (List.forall_mem_cons.mpr ⟨List.mem_of_getElem? (i := 3) rfl, (List.forall_mem_cons.mpr ⟨List.mem_of_getElem? (i := 4) rfl, (List.forall_mem_cons.mpr ⟨List.mem_of_getElem? (i := 5) rfl, (fun _ h => absurd h List.not_mem_nil)⟩)⟩)⟩)⟩)⟩)⟩) (ih2984 y2993 I2935 (up3 A2935 21 (x2929.toNatClampNeg) y2992) (show Md [] I I2935 from Md.tr hI2935 (show Md [] I2935 I2935 from Md.rf) rfl) (show Md [21] A (up3 A2935 21 (x2929.toNatClampNeg) y2992) from Md.tr hA2935 (show Md [21] A2935 (up3 A2935 21 (x2929.toNatClampNeg) y2992) from (Md.up3 Md.rf rfl)) rfl) ⟨(IvX_f0 (I := I2935) (A := A2935) hV2935), (IvX_f18 (I := I2935) (A := A2935) hV2935), (IvX_f30 (I := I2935) (A := A2935) hV2935), (IvX_f31 (I := I2935) (A := A2935) hV2935), (IvX_a4 (I := I2935) (A := A2935) hV2935), (IvX_a9 (I := I2935) (A := A2935) hV2935), trivial⟩ (by omega) (by omega) (by omega) (by omega) hF)
              · skip
                replace hF := FE.neg hF c2987
                refine g_iconst (v := 0) hk dX2_spreadAll_69 (by decide) ?_
                refine g_goto (tgt := 86) hk dX2_spreadAll_70 (by decide) ?_
                have k2994 : (0 : Int32).toInt = 0 := rfl
                refine sX_21 (j := x2929.toNatClampNeg) hk (vp_in_iff.mpr ⟨by omega, by omega⟩) rfl dX2_spreadAll_86 ?_
                obtain ⟨y2995, ey2995⟩ : ∃ y : Int32, y = x2929 + Int32.ofInt 1 := ⟨_, rfl⟩
                replace hF := FE.lt hF ey2995
                have hy2995 : y2995.toInt = x2929.toInt + 1 := i32_add ey2995 rfl (by decide) (by omega) (by omega)
                refine g_iinc (v := y2995) (lv' := [(5, .int y2995), (4, .int y2928), (3, .int x2618), (2, .int x2619), (0, .ref (q 38)), (1, .ref (q 39))]) hk 0 dX2_spreadAll_87 rfl ey2995.symm (by decide) rfl ?_
                refine g_goto (tgt := 52) hk dX2_spreadAll_90 (by decide) ?_
                exact g_lv (List.forall_mem_cons.mpr ⟨List.mem_of_getElem? (i := 0) rfl, (List.forall_mem_cons.mpr ⟨List.mem_of_getElem? (i := 1) rfl, (List.forall_mem_cons.mpr ⟨List.mem_of_getElem? (i := 2) rfl, (List.forall_mem_cons.mpr ⟨List.mem_of_getElem? (i := 3) rfl, (List.forall_mem_cons.mpr ⟨List.mem_of_getElem? (i := 4) rfl, (List.forall_mem_cons.mpr ⟨List.mem_of_getElem? (i := 5) rfl, (fun _ h => absurd h List.not_mem_nil)⟩)⟩)⟩)⟩)⟩)⟩) (ih2984 y2995 I2935 (up3 A2935 21 (x2929.toNatClampNeg) 0) (show Md [] I I2935 from Md.tr hI2935 (show Md [] I2935 I2935 from Md.rf) rfl) (show Md [21] A (up3 A2935 21 (x2929.toNatClampNeg) 0) from Md.tr hA2935 (show Md [21] A2935 (up3 A2935 21 (x2929.toNatClampNeg) 0) from (Md.up3 Md.rf rfl)) rfl) ⟨(IvX_f0 (I := I2935) (A := A2935) hV2935), (IvX_f18 (I := I2935) (A := A2935) hV2935), (IvX_f30 (I := I2935) (A := A2935) hV2935), (IvX_f31 (I := I2935) (A := A2935) hV2935), (IvX_a4 (I := I2935) (A := A2935) hV2935), (IvX_a9 (I := I2935) (A := A2935) hV2935), trivial⟩ (by omega) (by omega) (by omega) (by omega) hF)
        have k2997 : (0 : Int32).toInt = 0 := rfl
        have n2996a : 17 - 0 < (FU : Int) := by have := FU_eq; omega
        have n2996b : 0 < FU := by have := FU_eq; omega
        exact lp2980 FU 0 I A Md.rf Md.rf hIv (by omega) (by omega) n2996a n2996b hF
      · skip
        replace hF := FE.neg hF c2925
        refine g_iload_n hk dX2_spreadAll_20 rfl ?_
        refine g_aload_n hk dX2_spreadAll_21 rfl ?_
        refine g_iload hk dX2_spreadAll_22 rfl ?_
        refine lX_21 (v := (A 21 x2617.toNatClampNeg)) hk (vp_in_iff.mpr ⟨by omega, by omega⟩) rfl dX2_spreadAll_24 ?_
        have b2998l := Int32.le_toInt (A 21 x2617.toNatClampNeg)
        have b2998h := Int32.toInt_lt (A 21 x2617.toNatClampNeg)
        have b2999l := Int32.le_toInt x2619
        have b2999h := Int32.toInt_lt x2619
        refine g_mmin hk (List.mem_cons_of_mem _ (List.mem_append_left _ (List.mem_of_getElem? (i := 1) rfl))) (List.mem_cons_of_mem _ (List.mem_append_left _ (List.mem_of_getElem? (i := 2) rfl))) (List.mem_cons_of_mem _ (List.mem_append_left _ (List.mem_of_getElem? (i := 3) rfl))) (List.mem_cons_of_mem _ (List.mem_append_left _ (List.mem_of_getElem? (i := 4) rfl))) (Nat.le_of_ble_eq_true rfl) (Nat.le_of_ble_eq_true rfl) (Nat.le_of_ble_eq_true rfl) (Nat.le_of_ble_eq_true rfl) dX2_spreadAll_25 ?_
        refine g_topi (fun y3000 ey3000 => ?_)
        replace hF := FE.lt hF ey3000
        have hy3000 := i32_min ey3000
        refine g_istore_n (lv' := [(2, .int y3000), (4, .int x2617), (3, .int x2618), (0, .ref (q 38)), (1, .ref (q 39))]) hk dX2_spreadAll_28 (by decide) rfl ?_
        refine g_iload_n hk dX2_spreadAll_29 rfl ?_
        refine g_aload_n hk dX2_spreadAll_30 rfl ?_
        refine g_iload hk dX2_spreadAll_31 rfl ?_
        refine lX_21 (v := (A 21 x2617.toNatClampNeg)) hk (vp_in_iff.mpr ⟨by omega, by omega⟩) rfl dX2_spreadAll_33 ?_
        have b3001l := Int32.le_toInt x2618
        have b3001h := Int32.toInt_lt x2618
        refine g_mmax hk (List.mem_cons_of_mem _ (List.mem_append_left _ (List.mem_of_getElem? (i := 5) rfl))) (List.mem_cons_of_mem _ (List.mem_append_left _ (List.mem_of_getElem? (i := 6) rfl))) (List.mem_cons_of_mem _ (List.mem_append_left _ (List.mem_of_getElem? (i := 3) rfl))) (List.mem_cons_of_mem _ (List.mem_append_left _ (List.mem_of_getElem? (i := 7) rfl))) (Nat.le_of_ble_eq_true rfl) (Nat.le_of_ble_eq_true rfl) (Nat.le_of_ble_eq_true rfl) (Nat.le_of_ble_eq_true rfl) dX2_spreadAll_34 ?_
        refine g_topi (fun y3002 ey3002 => ?_)
        replace hF := FE.lt hF ey3002
        have hy3002 := i32_max ey3002
        refine g_istore_n (lv' := [(3, .int y3002), (2, .int y3000), (4, .int x2617), (0, .ref (q 38)), (1, .ref (q 39))]) hk dX2_spreadAll_37 (by decide) rfl ?_
        obtain ⟨y3003, ey3003⟩ : ∃ y : Int32, y = x2617 + Int32.ofInt 1 := ⟨_, rfl⟩
        replace hF := FE.lt hF ey3003
        have hy3003 : y3003.toInt = x2617.toInt + 1 := i32_add ey3003 rfl (by decide) (by omega) (by omega)
        refine g_iinc (v := y3003) (lv' := [(4, .int y3003), (3, .int y3002), (2, .int y3000), (0, .ref (q 38)), (1, .ref (q 39))]) hk 2 dX2_spreadAll_38 rfl ey3003.symm (by decide) rfl ?_
        refine g_goto (tgt := 11) hk dX2_spreadAll_41 (by decide) ?_
        exact g_lv (List.forall_mem_cons.mpr ⟨List.mem_of_getElem? (i := 0) rfl, (List.forall_mem_cons.mpr ⟨List.mem_of_getElem? (i := 1) rfl, (List.forall_mem_cons.mpr ⟨List.mem_of_getElem? (i := 2) rfl, (List.forall_mem_cons.mpr ⟨List.mem_of_getElem? (i := 3) rfl, (List.forall_mem_cons.mpr ⟨List.mem_of_getElem? (i := 4) rfl, (fun _ h => absurd h List.not_mem_nil)⟩)⟩)⟩)⟩)⟩) (ih2923 y3003 y3002 y3000 (by omega) (by omega) (by omega) (by omega) hF)
  have k3005 : (1 : Int32).toInt = 1 := rfl
  have b3006l := Int32.le_toInt (A 21 0)
  have b3006h := Int32.toInt_lt (A 21 0)
  have n3004a : 17 - 1 < (FU : Int) := by have := FU_eq; omega
  have n3004b : 0 < FU := by have := FU_eq; omega
  exact lp2919 FU 1 (A 21 0) (A 21 0) (by omega) (by omega) n3004a n3004b hF
noncomputable def bX2_lessenAll_2 (I : Nat → Int32) (z2 : Int32) : (Int32 → (Nat → Int32) → (Nat → Nat → Int32) → (Int32 × (Nat → Int32) × (Nat → Nat → Int32))) → Int32 → (Nat → Int32) → (Nat → Nat → Int32) → (Int32 × (Nat → Int32) × (Nat → Nat → Int32)) := fun kk3042 x3009 I3013 A3013 => if (I 30).toInt ≤ x3009.toInt then (0, I3013, A3013) else f_lt ((A3013 21 x3009.toNatClampNeg) - z2) fun y3048 => f_lt (x3009 + Int32.ofInt 1) fun y3049 => kk3042 y3049 I3013 (up3 A3013 21 (x3009.toNatClampNeg) y3048)
noncomputable def fX2_lessenAll (I : Nat → Int32) (A : Nat → Nat → Int32) (z2 : Int32) : Int32 × (Nat → Int32) × (Nat → Nat → Int32) := itr_iIA dfX (bX2_lessenAll_2 I z2) FU 0 I A
def wo_k219_X2_lessenAll : List Cond := [Cond.fieldLink RX2 24 "WarpDesk$Fit" "length" "I"]
def wz_k219_X2_lessenAll : List Cond := .code yX2_lessenAll cX2_lessenAll 4 none :: (wo_k219_X2_lessenAll ++ (wsX20 ++ ([] : List Cond)))
theorem zg_k219_X2_lessenAll : ∀ w ∈ wz_k219_X2_lessenAll, goodWord w = true := zg_cons rfl (zg_app (by decide +kernel) (zg_app zgU_wsX20 zg_nil))
theorem zi_k219_X2_lessenAll : ∀ w ∈ wz_k219_X2_lessenAll, w ∈ lw_tbl := zi_cons zw_960 (zi_app (zi_cons zw_343 zi_nil) (zi_app inX2 zi_nil))
set_option maxHeartbeats 4000000 in
set_option maxRecDepth 100000 in
theorem k219_X2_lessenAll (l : Launch) (D : va_G) (zt : Nat × Nat × Nat × (Nat → Nat) × (Nat → Nat)) (q : Nat → Nat) (d : Nat → ClassId) (I : Nat → Int32) (A : Nat → Nat → Int32) (z2 : Int32) (hIv : IvX I A) : GM l D zt (tyX d) yX2_lessenAll wz_k219_X2_lessenAll ({ frames := 0, cells := 0, slots := 0, locals := 0 } : Room) [.ref (q 38), .ref (q 39), .int z2] (wX q d I A) (fun v _ w' => ∃ (I' : Nat → Int32) (A' : Nat → Nat → Int32), Md [] I I' ∧ Md [21] A A' ∧ IvX I' A' ∧ FE (fX2_lessenAll I A z2) (0, I', A') ∧ v = none ∧ w' = wX q d I' A') 0 0 := by
  refine GM.of (cc := cX2_lessenAll) (maxL := 4) (ret := none) (own := RX2) (lv := [(0, .ref (q 38)), (1, .ref (q 39)), (2, .int z2)]) (by decide) rfl rfl (Nat.le_of_ble_eq_true rfl) rfl (fun κ sz hk hR hN => ?_)
  have hin2 : ∀ w ∈ u_ws RX2 TX2 10, w ∈ wz_k219_X2_lessenAll := fun w h => (List.mem_cons_of_mem _ (List.mem_append_right _ (List.mem_append_left _ h)))
  have hF : FE (fX2_lessenAll I A z2) (fX2_lessenAll I A z2) := FE.rf
  refine g_iconst (v := 0) hk dX2_lessenAll_0 (by decide) ?_
  refine g_istore_n (lv' := [(3, .int 0), (0, .ref (q 38)), (1, .ref (q 39)), (2, .int z2)]) hk dX2_lessenAll_1 (by decide) rfl ?_
  have lp3039 : ∀ (n3040 : Nat) (x3009 : Int32) (I3013 : Nat → Int32) (A3013 : Nat → Nat → Int32), (Md [] I I3013) → (Md [21] A A3013) → (IvX I3013 A3013) → (0 ≤ x3009.toInt) → (x3009.toInt ≤ 16) → (17 - x3009.toInt < (n3040 : Int)) → (0 < n3040) → (FE (fX2_lessenAll I A z2) (itr_iIA dfX (bX2_lessenAll_2 I z2) n3040 x3009 I3013 A3013)) → GW κ 4 0 0 (wX q d I3013 A3013) 2 [(3, .int x3009), (0, .ref (q 38)), (1, .ref (q 39)), (2, .int z2)] [] := by
    intro n3040
    induction n3040 with
    | zero =>
      intro x3009 I3013 A3013 hI3013 hA3013 hV3013 h3037 h3038 m3041 m3041z hF
      exact absurd m3041z (Nat.lt_irrefl 0)
    | succ n3040 ih3043 =>
      intro x3009 I3013 A3013 hI3013 hA3013 hV3013 h3037 h3038 m3041 m3041z hF
      replace hF := FE.itr_iIA hF
      refine g_iload_n hk dX2_lessenAll_2 rfl ?_
      refine g_aload_n hk dX2_lessenAll_3 rfl ?_
      refine gX_i30 (v := (I 30)) hk hin2 (List.mem_cons_of_mem _ (List.mem_append_left _ (List.mem_of_getElem? (i := 0) rfl))) dX2_lessenAll_4 (hI3013 30 rfl) ?_
      have f3044 := IvX_f30 hIv
      refine g_icmp_ge (tgt := 29) (a := x3009.toInt) (b := (I 30).toInt) hk dX2_lessenAll_7 (by decide) rfl rfl (fun c3045 => ?_) (fun c3045 => ?_)
      · skip
        replace hF := FE.pos hF c3045
        exact g_vret hk hR ⟨I3013, A3013, (show Md [] I I3013 from (Md.tr Md.rf hI3013 rfl)), (show Md [21] A A3013 from (Md.tr Md.rf hA3013 rfl)), hV3013, hF, rfl, rfl⟩ dX2_lessenAll_29
      · skip
        replace hF := FE.neg hF c3045
        refine g_iload_n hk dX2_lessenAll_10 rfl ?_
        refine g_aload_n hk dX2_lessenAll_11 rfl ?_
        refine nX_21 hk dX2_lessenAll_12 ?_
        refine g_icmp_ge (tgt := 29) (a := x3009.toInt) (b := 16) hk dX2_lessenAll_13 (by decide) rfl rfl (fun z9 => absurd z9 (show ¬ (16 ≤ x3009.toInt) from by omega)) (fun _ => ?_)
        refine g_aload_n hk dX2_lessenAll_16 rfl ?_
        refine g_iload_n hk dX2_lessenAll_17 rfl ?_
        refine g_dup2 hk dX2_lessenAll_18 rfl rfl ?_
        refine lX_21 (v := (A3013 21 x3009.toNatClampNeg)) hk (vp_in_iff.mpr ⟨by omega, by omega⟩) rfl dX2_lessenAll_19 ?_
        refine g_iload_n hk dX2_lessenAll_20 rfl ?_
        have b3046l := Int32.le_toInt (A3013 21 x3009.toNatClampNeg)
        have b3046h := Int32.toInt_lt (A3013 21 x3009.toNatClampNeg)
        have b3047l := Int32.le_toInt z2
        have b3047h := Int32.toInt_lt z2
        refine g_isub hk dX2_lessenAll_21 ?_
        refine g_topi (fun y3048 ey3048 => ?_)
        replace hF := FE.lt hF ey3048
        have hy3048 := i32_sub0 ey3048
        refine sX_21 (j := x3009.toNatClampNeg) hk (vp_in_iff.mpr ⟨by omega, by omega⟩) rfl dX2_lessenAll_22 ?_
        obtain ⟨y3049, ey3049⟩ : ∃ y : Int32, y = x3009 + Int32.ofInt 1 := ⟨_, rfl⟩
        replace hF := FE.lt hF ey3049
        have hy3049 : y3049.toInt = x3009.toInt + 1 := i32_add ey3049 rfl (by decide) (by omega) (by omega)
        refine g_iinc (v := y3049) (lv' := [(3, .int y3049), (0, .ref (q 38)), (1, .ref (q 39)), (2, .int z2)]) hk 0 dX2_lessenAll_23 rfl ey3049.symm (by decide) rfl ?_
        refine g_goto (tgt := 2) hk dX2_lessenAll_26 (by decide) ?_
        exact g_lv (List.forall_mem_cons.mpr ⟨List.mem_of_getElem? (i := 0) rfl, (List.forall_mem_cons.mpr ⟨List.mem_of_getElem? (i := 1) rfl, (List.forall_mem_cons.mpr ⟨List.mem_of_getElem? (i := 2) rfl, (List.forall_mem_cons.mpr ⟨List.mem_of_getElem? (i := 3) rfl, (fun _ h => absurd h List.not_mem_nil)⟩)⟩)⟩)⟩) (ih3043 y3049 I3013 (up3 A3013 21 (x3009.toNatClampNeg) y3048) (show Md [] I I3013 from Md.tr hI3013 (show Md [] I3013 I3013 from Md.rf) rfl) (show Md [21] A (up3 A3013 21 (x3009.toNatClampNeg) y3048) from Md.tr hA3013 (show Md [21] A3013 (up3 A3013 21 (x3009.toNatClampNeg) y3048) from (Md.up3 Md.rf rfl)) rfl) ⟨(IvX_f0 (I := I3013) (A := A3013) hV3013), (IvX_f18 (I := I3013) (A := A3013) hV3013), (IvX_f30 (I := I3013) (A := A3013) hV3013), (IvX_f31 (I := I3013) (A := A3013) hV3013), (IvX_a4 (I := I3013) (A := A3013) hV3013), (IvX_a9 (I := I3013) (A := A3013) hV3013), trivial⟩ (by omega) (by omega) (by omega) (by omega) hF)
  have k3051 : (0 : Int32).toInt = 0 := rfl
  have n3050a : 17 - 0 < (FU : Int) := by have := FU_eq; omega
  have n3050b : 0 < FU := by have := FU_eq; omega
  exact lp3039 FU 0 I A Md.rf Md.rf hIv (by omega) (by omega) n3050a n3050b hF
noncomputable def bX2_sumOf_4 (I : Nat → Int32) (A : Nat → Nat → Int32) : (Int32 → Int32 → (Int32)) → Int32 → Int32 → (Int32) := fun kk3086 x3054 x3055 => if (I 30).toInt ≤ x3054.toInt then x3055 else f_lt (x3055 + (A 21 x3054.toNatClampNeg)) fun y3093 => f_lt (x3054 + Int32.ofInt 1) fun y3094 => kk3086 y3094 y3093
noncomputable def fX2_sumOf (I : Nat → Int32) (A : Nat → Nat → Int32) : Int32 := itr_ii (0 : Int32) (bX2_sumOf_4 I A) FU 0 0
def wz_k220_X2_sumOf : List Cond := .code yX2_sumOf cX2_sumOf 4 (some .int) :: (wo_k219_X2_lessenAll ++ (wsX20 ++ ([] : List Cond)))
theorem zg_k220_X2_sumOf : ∀ w ∈ wz_k220_X2_sumOf, goodWord w = true := zg_cons rfl (zg_app (by decide +kernel) (zg_app zgU_wsX20 zg_nil))
theorem zi_k220_X2_sumOf : ∀ w ∈ wz_k220_X2_sumOf, w ∈ lw_tbl := zi_cons zw_955 (zi_app (zi_cons zw_343 zi_nil) (zi_app inX2 zi_nil))
set_option maxHeartbeats 4000000 in
set_option maxRecDepth 100000 in
theorem k220_X2_sumOf (l : Launch) (D : va_G) (zt : Nat × Nat × Nat × (Nat → Nat) × (Nat → Nat)) (q : Nat → Nat) (d : Nat → ClassId) (I : Nat → Int32) (A : Nat → Nat → Int32) (hIv : IvX I A) : GM l D zt (tyX d) yX2_sumOf wz_k220_X2_sumOf ({ frames := 0, cells := 0, slots := 0, locals := 0 } : Room) [.ref (q 38), .ref (q 39)] (wX q d I A) (fun v _ w' => ∃ y0 : Int32, FE (fX2_sumOf I A) y0 ∧ v = some (.int y0) ∧ w' = wX q d I A) 0 0 := by
  refine GM.of (cc := cX2_sumOf) (maxL := 4) (ret := (some .int)) (own := RX2) (lv := [(0, .ref (q 38)), (1, .ref (q 39))]) (by decide) rfl rfl (Nat.le_of_ble_eq_true rfl) rfl (fun κ sz hk hR hN => ?_)
  have hin2 : ∀ w ∈ u_ws RX2 TX2 10, w ∈ wz_k220_X2_sumOf := fun w h => (List.mem_cons_of_mem _ (List.mem_append_right _ (List.mem_append_left _ h)))
  have hF : FE (fX2_sumOf I A) (fX2_sumOf I A) := FE.rf
  refine g_iconst (v := 0) hk dX2_sumOf_0 (by decide) ?_
  refine g_istore_n (lv' := [(2, .int 0), (0, .ref (q 38)), (1, .ref (q 39))]) hk dX2_sumOf_1 (by decide) rfl ?_
  refine g_iconst (v := 0) hk dX2_sumOf_2 (by decide) ?_
  refine g_istore_n (lv' := [(3, .int 0), (2, .int 0), (0, .ref (q 38)), (1, .ref (q 39))]) hk dX2_sumOf_3 (by decide) rfl ?_
  have lp3083 : ∀ (n3084 : Nat) (x3054 : Int32) (x3055 : Int32), (0 ≤ x3054.toInt) → (x3054.toInt ≤ 16) → (17 - x3054.toInt < (n3084 : Int)) → (0 < n3084) → (FE (fX2_sumOf I A) (itr_ii (0 : Int32) (bX2_sumOf_4 I A) n3084 x3054 x3055)) → GW κ 4 0 0 (wX q d I A) 4 [(3, .int x3054), (2, .int x3055), (0, .ref (q 38)), (1, .ref (q 39))] [] := by
    intro n3084
    induction n3084 with
    | zero =>
      intro x3054 x3055 h3081 h3082 m3085 m3085z hF
      exact absurd m3085z (Nat.lt_irrefl 0)
    | succ n3084 ih3087 =>
      intro x3054 x3055 h3081 h3082 m3085 m3085z hF
      replace hF := FE.itr_ii hF
      refine g_iload_n hk dX2_sumOf_4 rfl ?_
      refine g_aload_n hk dX2_sumOf_5 rfl ?_
      refine gX_i30 (v := (I 30)) hk hin2 (List.mem_cons_of_mem _ (List.mem_append_left _ (List.mem_of_getElem? (i := 0) rfl))) dX2_sumOf_6 rfl ?_
      have f3088 := IvX_f30 hIv
      refine g_icmp_ge (tgt := 30) (a := x3054.toInt) (b := (I 30).toInt) hk dX2_sumOf_9 (by decide) rfl rfl (fun c3089 => ?_) (fun c3089 => ?_)
      · skip
        replace hF := FE.pos hF c3089
        refine g_iload_n hk dX2_sumOf_30 rfl ?_
        have b3090l := Int32.le_toInt x3055
        have b3090h := Int32.toInt_lt x3055
        exact g_iret hk hR rfl ⟨x3055, hF, rfl, rfl⟩ dX2_sumOf_31
      · skip
        replace hF := FE.neg hF c3089
        refine g_iload_n hk dX2_sumOf_12 rfl ?_
        refine g_aload_n hk dX2_sumOf_13 rfl ?_
        refine nX_21 hk dX2_sumOf_14 ?_
        refine g_icmp_ge (tgt := 30) (a := x3054.toInt) (b := 16) hk dX2_sumOf_15 (by decide) rfl rfl (fun z9 => absurd z9 (show ¬ (16 ≤ x3054.toInt) from by omega)) (fun _ => ?_)
        refine g_iload_n hk dX2_sumOf_18 rfl ?_
        refine g_aload_n hk dX2_sumOf_19 rfl ?_
        refine g_iload_n hk dX2_sumOf_20 rfl ?_
        refine lX_21 (v := (A 21 x3054.toNatClampNeg)) hk (vp_in_iff.mpr ⟨by omega, by omega⟩) rfl dX2_sumOf_21 ?_
        have b3091l := Int32.le_toInt x3055
        have b3091h := Int32.toInt_lt x3055
        have b3092l := Int32.le_toInt (A 21 x3054.toNatClampNeg)
        have b3092h := Int32.toInt_lt (A 21 x3054.toNatClampNeg)
        refine g_iadd hk dX2_sumOf_22 ?_
        refine g_topi (fun y3093 ey3093 => ?_)
        replace hF := FE.lt hF ey3093
        refine g_istore_n (lv' := [(2, .int y3093), (3, .int x3054), (0, .ref (q 38)), (1, .ref (q 39))]) hk dX2_sumOf_23 (by decide) rfl ?_
        obtain ⟨y3094, ey3094⟩ : ∃ y : Int32, y = x3054 + Int32.ofInt 1 := ⟨_, rfl⟩
        replace hF := FE.lt hF ey3094
        have hy3094 : y3094.toInt = x3054.toInt + 1 := i32_add ey3094 rfl (by decide) (by omega) (by omega)
        refine g_iinc (v := y3094) (lv' := [(3, .int y3094), (2, .int y3093), (0, .ref (q 38)), (1, .ref (q 39))]) hk 1 dX2_sumOf_24 rfl ey3094.symm (by decide) rfl ?_
        refine g_goto (tgt := 4) hk dX2_sumOf_27 (by decide) ?_
        exact g_lv (List.forall_mem_cons.mpr ⟨List.mem_of_getElem? (i := 0) rfl, (List.forall_mem_cons.mpr ⟨List.mem_of_getElem? (i := 1) rfl, (List.forall_mem_cons.mpr ⟨List.mem_of_getElem? (i := 2) rfl, (List.forall_mem_cons.mpr ⟨List.mem_of_getElem? (i := 3) rfl, (fun _ h => absurd h List.not_mem_nil)⟩)⟩)⟩)⟩) (ih3087 y3094 y3093 (by omega) (by omega) (by omega) (by omega) hF)
  have k3096 : (0 : Int32).toInt = 0 := rfl
  have n3095a : 17 - 0 < (FU : Int) := by have := FU_eq; omega
  have n3095b : 0 < FU := by have := FU_eq; omega
  exact lp3083 FU 0 0 (by omega) (by omega) n3095a n3095b hF
noncomputable def fX2_bringToLevel (I : Nat → Int32) (A : Nat → Nat → Int32) (z2 : Int32) : Int32 × (Nat → Int32) × (Nat → Nat → Int32) := if z2.toInt ≠ 1 then if z2.toInt ≠ 2 then if z2.toInt ≠ 3 then (0, I, A) else f_bdX (fX2_spreadAll I A) fun _ I3008 A3008 => (0, I3008, A3008) else f_bdX (fX2_lessenAll I A (A 21 0)) fun _ I3053 A3053 => (0, I3053, A3053) else f_lt (fX2_sumOf I A) fun y3097 => f_lt (fX_floorDiv I A y3097 (I 30)) fun y3098 => f_bdX (fX2_lessenAll I A y3098) fun _ I3100 A3100 => (0, I3100, A3100)
def wo_k217_X2_bringToLevel : List Cond := [Cond.fieldLink RX2 24 "WarpDesk$Fit" "length" "I", Cond.methodLink RX2 61 yX2_spreadAll, Cond.instanceMethod yX2_spreadAll, Cond.selects RX2 yX2_spreadAll yX2_spreadAll, Cond.initialized RX2, Cond.methodLink RX2 57 yX2_lessenAll, Cond.instanceMethod yX2_lessenAll, Cond.selects RX2 yX2_lessenAll yX2_lessenAll, Cond.methodLink RX2 50 yX2_sumOf, Cond.instanceMethod yX2_sumOf, Cond.selects RX2 yX2_sumOf yX2_sumOf, Cond.methodLink RX2 54 yJ9_floorDiv_7cf53, Cond.static yJ9_floorDiv_7cf53, Cond.initialized RJ9]
def wz_k217_X2_bringToLevel : List Cond := .code yX2_bringToLevel cX2_bringToLevel 3 none :: (wo_k217_X2_bringToLevel ++ (wsX20 ++ (wz_k218_X2_spreadAll ++ (wz_k219_X2_lessenAll ++ (wz_k220_X2_sumOf ++ (wz_k189_J9_floorDiv_7cf53 ++ ([] : List Cond)))))))
theorem zg_k217_X2_bringToLevel : ∀ w ∈ wz_k217_X2_bringToLevel, goodWord w = true := zg_cons rfl (zg_app (by decide +kernel) (zg_app zgU_wsX20 (zg_app zg_k218_X2_spreadAll (zg_app zg_k219_X2_lessenAll (zg_app zg_k220_X2_sumOf (zg_app zg_k189_J9_floorDiv_7cf53 zg_nil))))))
theorem zi_k217_X2_bringToLevel : ∀ w ∈ wz_k217_X2_bringToLevel, w ∈ lw_tbl := zi_cons zw_951 (zi_app (zi_cons zw_343 (zi_cons zw_961 (zi_cons zw_963 (zi_cons zw_27 (zi_cons zw_112 (zi_cons zw_957 (zi_cons zw_959 (zi_cons zw_26 (zi_cons zw_952 (zi_cons zw_954 (zi_cons zw_25 (zi_cons zw_956 (zi_cons zw_845 (zi_cons zw_120 zi_nil)))))))))))))) (zi_app inX2 (zi_app zi_k218_X2_spreadAll (zi_app zi_k219_X2_lessenAll (zi_app zi_k220_X2_sumOf (zi_app zi_k189_J9_floorDiv_7cf53 zi_nil))))))
set_option maxHeartbeats 4000000 in
set_option maxRecDepth 100000 in
theorem k217_X2_bringToLevel (l : Launch) (D : va_G) (zt : Nat × Nat × Nat × (Nat → Nat) × (Nat → Nat)) (q : Nat → Nat) (d : Nat → ClassId) (I : Nat → Int32) (A : Nat → Nat → Int32) (z2 : Int32) (hIv : IvX I A) : GM l D zt (tyX d) yX2_bringToLevel wz_k217_X2_bringToLevel ({ frames := 2, cells := 0, slots := 0, locals := 38 } : Room) [.ref (q 38), .ref (q 39), .int z2] (wX q d I A) (fun v _ w' => ∃ (I' : Nat → Int32) (A' : Nat → Nat → Int32), Md [] I I' ∧ Md [21] A A' ∧ IvX I' A' ∧ FE (fX2_bringToLevel I A z2) (0, I', A') ∧ v = none ∧ w' = wX q d I' A') 0 0 := by
  refine GM.of (cc := cX2_bringToLevel) (maxL := 3) (ret := none) (own := RX2) (lv := [(0, .ref (q 38)), (1, .ref (q 39)), (2, .int z2)]) (by decide) rfl rfl (Nat.le_of_ble_eq_true rfl) rfl (fun κ sz hk hR hN => ?_)
  have hin2 : ∀ w ∈ u_ws RX2 TX2 10, w ∈ wz_k217_X2_bringToLevel := fun w h => (List.mem_cons_of_mem _ (List.mem_append_right _ (List.mem_append_left _ h)))
  have hF : FE (fX2_bringToLevel I A z2) (fX2_bringToLevel I A z2) := FE.rf
  refine g_aload_n hk dX2_bringToLevel_0 rfl ?_
  refine gX_i30 (v := (I 30)) hk hin2 (List.mem_cons_of_mem _ (List.mem_append_left _ (List.mem_of_getElem? (i := 0) rfl))) dX2_bringToLevel_1 rfl ?_
  have f2612 := IvX_f30 hIv
  refine g_iconst (v := 1) hk dX2_bringToLevel_4 (by decide) ?_
  refine g_icmp_lt (tgt := 17) (a := (I 30).toInt) (b := 1) hk dX2_bringToLevel_5 (by decide) rfl rfl (fun z9 => absurd z9 (show ¬ ((I 30).toInt < 1) from by omega)) (fun _ => ?_)
  refine g_aload_n hk dX2_bringToLevel_8 rfl ?_
  refine gX_i30 (v := (I 30)) hk hin2 (List.mem_cons_of_mem _ (List.mem_append_left _ (List.mem_of_getElem? (i := 0) rfl))) dX2_bringToLevel_9 rfl ?_
  refine g_aload_n hk dX2_bringToLevel_12 rfl ?_
  refine nX_21 hk dX2_bringToLevel_13 ?_
  refine g_icmp_le (tgt := 18) (a := (I 30).toInt) (b := 16) hk dX2_bringToLevel_14 (by decide) rfl rfl (fun _ => ?_) (fun z9 => absurd (show (I 30).toInt ≤ 16 from by omega) z9)
  refine g_iload_n hk dX2_bringToLevel_18 rfl ?_
  refine g_iconst (v := 1) hk dX2_bringToLevel_19 (by decide) ?_
  have b2613l := Int32.le_toInt z2
  have b2613h := Int32.toInt_lt z2
  refine g_icmp_ne (tgt := 43) (a := z2.toInt) (b := 1) hk dX2_bringToLevel_20 (by decide) rfl rfl (fun c2614 => ?_) (fun c2614 => ?_)
  · skip
    replace hF := FE.pos hF c2614
    refine g_iload_n hk dX2_bringToLevel_43 rfl ?_
    refine g_iconst (v := 2) hk dX2_bringToLevel_44 (by decide) ?_
    refine g_icmp_ne (tgt := 59) (a := z2.toInt) (b := 2) hk dX2_bringToLevel_45 (by decide) rfl rfl (fun c2615 => ?_) (fun c2615 => ?_)
    · skip
      replace hF := FE.pos hF c2615
      refine g_iload_n hk dX2_bringToLevel_59 rfl ?_
      refine g_iconst (v := 3) hk dX2_bringToLevel_60 (by decide) ?_
      refine g_icmp_ne (tgt := 69) (a := z2.toInt) (b := 3) hk dX2_bringToLevel_61 (by decide) rfl rfl (fun c2616 => ?_) (fun c2616 => ?_)
      · skip
        replace hF := FE.pos hF c2616
        exact g_vret hk hR ⟨I, A, (show Md [] I I from Md.rf), (show Md [21] A A from Md.rf), hIv, hF, rfl, rfl⟩ dX2_bringToLevel_69
      · skip
        replace hF := FE.neg hF c2616
        refine g_aload_n hk dX2_bringToLevel_64 rfl ?_
        refine g_aload_n hk dX2_bringToLevel_65 rfl ?_
        refine g_callV (n := 1) hk (k218_X2_spreadAll l D zt q d I A  hIv) (SP.same _) (fun _ h => h) (gi_V (List.mem_cons_of_mem _ (List.mem_append_left _ (List.mem_of_getElem? (i := 1) rfl))) (List.mem_cons_of_mem _ (List.mem_append_left _ (List.mem_of_getElem? (i := 2) rfl))) (List.mem_cons_of_mem _ (List.mem_append_left _ (List.mem_of_getElem? (i := 3) rfl))) (List.mem_cons_of_mem _ (List.mem_append_left _ (List.mem_of_getElem? (i := 4) rfl))) (gi_sub (fun w h => (List.mem_cons_of_mem _ (List.mem_append_right _ (List.mem_append_right _ (List.mem_append_left _ h))))) zg_k218_X2_spreadAll)) rfl rfl rfl (by decide +kernel) ⟨Nat.le_of_ble_eq_true rfl, Nat.le_of_ble_eq_true rfl⟩ 38 rfl rfl rfl rfl (Nat.le_of_ble_eq_true rfl) ⟨Nat.le_of_ble_eq_true rfl, Nat.le_of_ble_eq_true rfl⟩ dX2_bringToLevel_66 (fun v ty' w' hp hk' => ?_)
        obtain ⟨I3008, A3008, hI3008, hA3008, hV3008, hC, rfl, rfl⟩ := hp
        replace hF := FE.bdX hF hC
        show GW κ 3 0 0 (wX q d I3008 A3008) 69 [(0, .ref (q 38)), (1, .ref (q 39)), (2, .int z2)] []
        exact g_vret hk hR ⟨I3008, A3008, (show Md [] I I3008 from (Md.tr Md.rf hI3008 rfl)), (show Md [21] A A3008 from (Md.tr Md.rf hA3008 rfl)), hV3008, hF, rfl, rfl⟩ dX2_bringToLevel_69
    · skip
      replace hF := FE.neg hF c2615
      refine g_aload_n hk dX2_bringToLevel_48 rfl ?_
      refine g_aload_n hk dX2_bringToLevel_49 rfl ?_
      refine g_aload_n hk dX2_bringToLevel_50 rfl ?_
      refine g_iconst (v := 0) hk dX2_bringToLevel_51 (by decide) ?_
      refine lX_21 (v := (A 21 0)) hk (vp_in_iff.mpr ⟨by decide, by decide⟩) rfl dX2_bringToLevel_52 ?_
      refine g_callV (n := 2) hk (k219_X2_lessenAll l D zt q d I A (A 21 0) hIv) (SP.same _) (fun _ h => h) (gi_V (List.mem_cons_of_mem _ (List.mem_append_left _ (List.mem_of_getElem? (i := 5) rfl))) (List.mem_cons_of_mem _ (List.mem_append_left _ (List.mem_of_getElem? (i := 6) rfl))) (List.mem_cons_of_mem _ (List.mem_append_left _ (List.mem_of_getElem? (i := 7) rfl))) (List.mem_cons_of_mem _ (List.mem_append_left _ (List.mem_of_getElem? (i := 4) rfl))) (gi_sub (fun w h => (List.mem_cons_of_mem _ (List.mem_append_right _ (List.mem_append_right _ (List.mem_append_right _ (List.mem_append_left _ h)))))) zg_k219_X2_lessenAll)) rfl rfl rfl (by decide +kernel) ⟨Nat.le_of_ble_eq_true rfl, Nat.le_of_ble_eq_true rfl⟩ 38 rfl rfl rfl rfl (Nat.le_of_ble_eq_true rfl) ⟨Nat.le_of_ble_eq_true rfl, Nat.le_of_ble_eq_true rfl⟩ dX2_bringToLevel_53 (fun v ty' w' hp hk' => ?_)
      obtain ⟨I3053, A3053, hI3053, hA3053, hV3053, hC, rfl, rfl⟩ := hp
      replace hF := FE.bdX hF hC
      show GW κ 3 0 0 (wX q d I3053 A3053) 56 [(0, .ref (q 38)), (1, .ref (q 39)), (2, .int z2)] []
      refine g_goto (tgt := 69) hk dX2_bringToLevel_56 (by decide) ?_
      exact g_vret hk hR ⟨I3053, A3053, (show Md [] I I3053 from (Md.tr Md.rf hI3053 rfl)), (show Md [21] A A3053 from (Md.tr Md.rf hA3053 rfl)), hV3053, hF, rfl, rfl⟩ dX2_bringToLevel_69
  · skip
    replace hF := FE.neg hF c2614
    refine g_aload_n hk dX2_bringToLevel_23 rfl ?_
    refine g_aload_n hk dX2_bringToLevel_24 rfl ?_
    refine g_aload_n hk dX2_bringToLevel_25 rfl ?_
    refine g_aload_n hk dX2_bringToLevel_26 rfl ?_
    refine g_callV (n := 1) hk (k220_X2_sumOf l D zt q d I A  hIv) (SP.same _) (fun _ h => h) (gi_V (List.mem_cons_of_mem _ (List.mem_append_left _ (List.mem_of_getElem? (i := 8) rfl))) (List.mem_cons_of_mem _ (List.mem_append_left _ (List.mem_of_getElem? (i := 9) rfl))) (List.mem_cons_of_mem _ (List.mem_append_left _ (List.mem_of_getElem? (i := 10) rfl))) (List.mem_cons_of_mem _ (List.mem_append_left _ (List.mem_of_getElem? (i := 4) rfl))) (gi_sub (fun w h => (List.mem_cons_of_mem _ (List.mem_append_right _ (List.mem_append_right _ (List.mem_append_right _ (List.mem_append_right _ (List.mem_append_left _ h))))))) zg_k220_X2_sumOf)) rfl rfl rfl (by decide +kernel) ⟨Nat.le_of_ble_eq_true rfl, Nat.le_of_ble_eq_true rfl⟩ 38 rfl rfl rfl rfl (Nat.le_of_ble_eq_true rfl) ⟨Nat.le_of_ble_eq_true rfl, Nat.le_of_ble_eq_true rfl⟩ dX2_bringToLevel_27 (fun v ty' w' hp hk' => ?_)
    obtain ⟨y3097, hC, rfl, rfl⟩ := hp
    replace hF := FE.lt hF (fe_s hC)
    show GW κ 3 0 0 (wX q d I A) 30 [(0, .ref (q 38)), (1, .ref (q 39)), (2, .int z2)] [.int y3097, .ref (q 39), .ref (q 38)]
    refine g_aload_n hk dX2_bringToLevel_30 rfl ?_
    refine gX_i30 (v := (I 30)) hk hin2 (List.mem_cons_of_mem _ (List.mem_append_left _ (List.mem_of_getElem? (i := 0) rfl))) dX2_bringToLevel_31 rfl ?_
    refine g_callS (n := 2) hk (k189_J9_floorDiv_7cf53 l D zt q d I A y3097 (I 30) hIv (by omega)) (SP.same _) (fun _ h => h) (gi_S (List.mem_cons_of_mem _ (List.mem_append_left _ (List.mem_of_getElem? (i := 11) rfl))) (List.mem_cons_of_mem _ (List.mem_append_left _ (List.mem_of_getElem? (i := 12) rfl))) (List.mem_cons_of_mem _ (List.mem_append_left _ (List.mem_of_getElem? (i := 13) rfl))) (gi_sub (fun w h => (List.mem_cons_of_mem _ (List.mem_append_right _ (List.mem_append_right _ (List.mem_append_right _ (List.mem_append_right _ (List.mem_append_right _ (List.mem_append_left _ h)))))))) zg_k189_J9_floorDiv_7cf53)) rfl rfl rfl (by decide +kernel) ⟨Nat.le_of_ble_eq_true rfl, Nat.le_of_ble_eq_true rfl⟩ rfl rfl (Nat.le_of_ble_eq_true rfl) ⟨Nat.le_of_ble_eq_true rfl, Nat.le_of_ble_eq_true rfl⟩ dX2_bringToLevel_34 (fun v ty' w' hp hk' => ?_)
    obtain ⟨y3098, hC, rfl, rfl⟩ := hp
    replace hF := FE.lt hF (fe_s hC)
    show GW κ 3 0 0 (wX q d I A) 37 [(0, .ref (q 38)), (1, .ref (q 39)), (2, .int z2)] [.int y3098, .ref (q 39), .ref (q 38)]
    refine g_callV (n := 2) hk (k219_X2_lessenAll l D zt q d I A y3098 hIv) (SP.same _) (fun _ h => h) (gi_V (List.mem_cons_of_mem _ (List.mem_append_left _ (List.mem_of_getElem? (i := 5) rfl))) (List.mem_cons_of_mem _ (List.mem_append_left _ (List.mem_of_getElem? (i := 6) rfl))) (List.mem_cons_of_mem _ (List.mem_append_left _ (List.mem_of_getElem? (i := 7) rfl))) (List.mem_cons_of_mem _ (List.mem_append_left _ (List.mem_of_getElem? (i := 4) rfl))) (gi_sub (fun w h => (List.mem_cons_of_mem _ (List.mem_append_right _ (List.mem_append_right _ (List.mem_append_right _ (List.mem_append_left _ h)))))) zg_k219_X2_lessenAll)) rfl rfl rfl (by decide +kernel) ⟨Nat.le_of_ble_eq_true rfl, Nat.le_of_ble_eq_true rfl⟩ 38 rfl rfl rfl rfl (Nat.le_of_ble_eq_true rfl) ⟨Nat.le_of_ble_eq_true rfl, Nat.le_of_ble_eq_true rfl⟩ dX2_bringToLevel_37 (fun v ty' w' hp hk' => ?_)
    obtain ⟨I3100, A3100, hI3100, hA3100, hV3100, hC, rfl, rfl⟩ := hp
    replace hF := FE.bdX hF hC
    show GW κ 3 0 0 (wX q d I3100 A3100) 40 [(0, .ref (q 38)), (1, .ref (q 39)), (2, .int z2)] []
    refine g_goto (tgt := 69) hk dX2_bringToLevel_40 (by decide) ?_
    exact g_vret hk hR ⟨I3100, A3100, (show Md [] I I3100 from (Md.tr Md.rf hI3100 rfl)), (show Md [21] A A3100 from (Md.tr Md.rf hA3100 rfl)), hV3100, hF, rfl, rfl⟩ dX2_bringToLevel_69
noncomputable def fX0_openWindow (I : Nat → Int32) (A : Nat → Nat → Int32) (z1 : Int32) (z2 : Int32) : Int32 × (Nat → Int32) × (Nat → Nat → Int32) := f_lt (fX7_valueOf_2 I A 0) fun y2538 => f_bdX (fX0_begin I A z2 y2538) fun _ I2557 A2557 => f_bdX (fX6_copyWindow I2557 A2557 z1 (I2557 28)) fun _ I2609 A2609 => f_lt (fX7_valueOf_2 I2609 A2609 1) fun y2611 => f_bdX (fX2_bringToLevel I2609 A2609 y2611) fun _ I3102 A3102 => (0, I3102, A3102)
def wo_k213_X0_openWindow : List Cond := [Cond.fieldLink RX0 26 "WarpDesk$Bench" "settings" "LWarpDesk$Settings;", Cond.methodLink RX0 49 yX7_valueOf, Cond.instanceMethod yX7_valueOf, Cond.selects RX7 yX7_valueOf yX7_valueOf, Cond.initialized RX7, Cond.methodLink RX0 62 yX0_begin, Cond.instanceMethod yX0_begin, Cond.selects RX0 yX0_begin yX0_begin, Cond.initialized RX0, Cond.fieldLink RX0 18 "WarpDesk$Bench" "series" "LWarpDesk$Series;", Cond.fieldLink RX0 77 "WarpDesk$Bench" "length" "I", Cond.fieldLink RX0 12 "WarpDesk$Bench" "fit" "LWarpDesk$Fit;", Cond.fieldLink RX0 65 "WarpDesk$Fit" "left" "[I", Cond.methodLink RX0 81 yX6_copyWindow, Cond.instanceMethod yX6_copyWindow, Cond.selects RX6 yX6_copyWindow yX6_copyWindow, Cond.initialized RX6, Cond.methodLink RX0 73 yX2_bringToLevel, Cond.instanceMethod yX2_bringToLevel, Cond.selects RX2 yX2_bringToLevel yX2_bringToLevel, Cond.initialized RX2]
def wz_k213_X0_openWindow : List Cond := .code yX0_openWindow cX0_openWindow 3 none :: (wo_k213_X0_openWindow ++ (wsX00 ++ (wsX20 ++ (wz_k174_X7_valueOf ++ (wz_k214_X0_begin ++ (wz_k216_X6_copyWindow ++ (wz_k217_X2_bringToLevel ++ ([] : List Cond))))))))
theorem zg_k213_X0_openWindow : ∀ w ∈ wz_k213_X0_openWindow, goodWord w = true := zg_cons rfl (zg_app (by decide +kernel) (zg_app zgU_wsX00 (zg_app zgU_wsX20 (zg_app zg_k174_X7_valueOf (zg_app zg_k214_X0_begin (zg_app zg_k216_X6_copyWindow (zg_app zg_k217_X2_bringToLevel zg_nil)))))))
theorem zi_k213_X0_openWindow : ∀ w ∈ wz_k213_X0_openWindow, w ∈ lw_tbl := zi_cons zw_932 (zi_app (zi_cons zw_378 (zi_cons zw_933 (zi_cons zw_786 (zi_cons zw_787 (zi_cons zw_107 (zi_cons zw_934 (zi_cons zw_936 (zi_cons zw_24 (zi_cons zw_111 (zi_cons zw_373 (zi_cons zw_384 (zi_cons zw_380 (zi_cons zw_335 (zi_cons zw_944 (zi_cons zw_945 (zi_cons zw_946 (zi_cons zw_109 (zi_cons zw_948 (zi_cons zw_949 (zi_cons zw_950 (zi_cons zw_112 zi_nil))))))))))))))))))))) (zi_app inX0 (zi_app inX2 (zi_app zi_k174_X7_valueOf (zi_app zi_k214_X0_begin (zi_app zi_k216_X6_copyWindow (zi_app zi_k217_X2_bringToLevel zi_nil)))))))
set_option maxHeartbeats 4000000 in
set_option maxRecDepth 100000 in
theorem k213_X0_openWindow (l : Launch) (D : va_G) (zt : Nat × Nat × Nat × (Nat → Nat) × (Nat → Nat)) (q : Nat → Nat) (d : Nat → ClassId) (I : Nat → Int32) (A : Nat → Nat → Int32) (z1 : Int32) (z2 : Int32) (hIv : IvX I A) : GM l D zt (tyX d) yX0_openWindow wz_k213_X0_openWindow ({ frames := 3, cells := 0, slots := 0, locals := 60 } : Room) [.ref (q 37), .int z1, .int z2] (wX q d I A) (fun v _ w' => ∃ (I' : Nat → Int32) (A' : Nat → Nat → Int32), Md [28, 30, 31, 32] I I' ∧ Md [21] A A' ∧ IvX I' A' ∧ FE (fX0_openWindow I A z1 z2) (0, I', A') ∧ v = none ∧ w' = wX q d I' A') 0 0 := by
  refine GM.of (cc := cX0_openWindow) (maxL := 3) (ret := none) (own := RX0) (lv := [(0, .ref (q 37)), (1, .int z1), (2, .int z2)]) (by decide) rfl rfl (Nat.le_of_ble_eq_true rfl) rfl (fun κ sz hk hR hN => ?_)
  have hin0 : ∀ w ∈ u_ws RX0 TX0 5, w ∈ wz_k213_X0_openWindow := fun w h => (List.mem_cons_of_mem _ (List.mem_append_right _ (List.mem_append_left _ h)))
  have hin2 : ∀ w ∈ u_ws RX2 TX2 10, w ∈ wz_k213_X0_openWindow := fun w h => (List.mem_cons_of_mem _ (List.mem_append_right _ (List.mem_append_right _ (List.mem_append_left _ h))))
  have hF : FE (fX0_openWindow I A z1 z2) (fX0_openWindow I A z1 z2) := FE.rf
  refine g_aload_n hk dX0_openWindow_0 rfl ?_
  refine g_iload_n hk dX0_openWindow_1 rfl ?_
  refine g_aload_n hk dX0_openWindow_2 rfl ?_
  refine gX_r37_2 hk hin0 (List.mem_cons_of_mem _ (List.mem_append_left _ (List.mem_of_getElem? (i := 0) rfl))) dX0_openWindow_3 ?_
  refine g_iconst (v := 0) hk dX0_openWindow_6 (by decide) ?_
  have k2537 : (0 : Int32).toInt = 0 := rfl
  refine g_callV (n := 1) hk (k194_X7_valueOf l D zt q d I A 0 hIv) (SP.same _) (fun _ h => h) (gi_V (List.mem_cons_of_mem _ (List.mem_append_left _ (List.mem_of_getElem? (i := 1) rfl))) (List.mem_cons_of_mem _ (List.mem_append_left _ (List.mem_of_getElem? (i := 2) rfl))) (List.mem_cons_of_mem _ (List.mem_append_left _ (List.mem_of_getElem? (i := 3) rfl))) (List.mem_cons_of_mem _ (List.mem_append_left _ (List.mem_of_getElem? (i := 4) rfl))) (gi_sub (fun w h => (List.mem_cons_of_mem _ (List.mem_append_right _ (List.mem_append_right _ (List.mem_append_right _ (List.mem_append_left _ h)))))) zg_k174_X7_valueOf)) rfl rfl rfl (by decide +kernel) ⟨Nat.le_of_ble_eq_true rfl, Nat.le_of_ble_eq_true rfl⟩ 18 rfl rfl rfl rfl (Nat.le_of_ble_eq_true rfl) ⟨Nat.le_of_ble_eq_true rfl, Nat.le_of_ble_eq_true rfl⟩ dX0_openWindow_7 (fun v ty' w' hp hk' => ?_)
  obtain ⟨y2538, hC, rfl, rfl⟩ := hp
  replace hF := FE.lt hF (fe_s hC)
  show GW κ 3 0 0 (wX q d I A) 10 [(0, .ref (q 37)), (1, .int z1), (2, .int z2)] [.int y2538, .int z2, .ref (q 37)]
  refine g_callV (n := 2) hk (k214_X0_begin l D zt q d I A z2 y2538 hIv) (SP.same _) (fun _ h => h) (gi_V (List.mem_cons_of_mem _ (List.mem_append_left _ (List.mem_of_getElem? (i := 5) rfl))) (List.mem_cons_of_mem _ (List.mem_append_left _ (List.mem_of_getElem? (i := 6) rfl))) (List.mem_cons_of_mem _ (List.mem_append_left _ (List.mem_of_getElem? (i := 7) rfl))) (List.mem_cons_of_mem _ (List.mem_append_left _ (List.mem_of_getElem? (i := 8) rfl))) (gi_sub (fun w h => (List.mem_cons_of_mem _ (List.mem_append_right _ (List.mem_append_right _ (List.mem_append_right _ (List.mem_append_right _ (List.mem_append_left _ h))))))) zg_k214_X0_begin)) rfl rfl rfl (by decide +kernel) ⟨Nat.le_of_ble_eq_true rfl, Nat.le_of_ble_eq_true rfl⟩ 37 rfl rfl rfl rfl (Nat.le_of_ble_eq_true rfl) ⟨Nat.le_of_ble_eq_true rfl, Nat.le_of_ble_eq_true rfl⟩ dX0_openWindow_10 (fun v ty' w' hp hk' => ?_)
  obtain ⟨I2557, A2557, hI2557, hA2557, hV2557, hC, rfl, rfl⟩ := hp
  replace hF := FE.bdX hF hC
  show GW κ 3 0 0 (wX q d I2557 A2557) 13 [(0, .ref (q 37)), (1, .int z1), (2, .int z2)] []
  refine g_aload_n hk dX0_openWindow_13 rfl ?_
  refine gX_r37_0 hk hin0 (List.mem_cons_of_mem _ (List.mem_append_left _ (List.mem_of_getElem? (i := 9) rfl))) dX0_openWindow_14 ?_
  refine g_iload_n hk dX0_openWindow_17 rfl ?_
  refine g_aload_n hk dX0_openWindow_18 rfl ?_
  refine gX_i28 (v := (I2557 28)) hk hin0 (List.mem_cons_of_mem _ (List.mem_append_left _ (List.mem_of_getElem? (i := 10) rfl))) dX0_openWindow_19 rfl ?_
  refine g_aload_n hk dX0_openWindow_22 rfl ?_
  refine gX_r37_3 hk hin0 (List.mem_cons_of_mem _ (List.mem_append_left _ (List.mem_of_getElem? (i := 11) rfl))) dX0_openWindow_23 ?_
  refine gX_r38_0 hk hin2 (List.mem_cons_of_mem _ (List.mem_append_left _ (List.mem_of_getElem? (i := 12) rfl))) dX0_openWindow_26 ?_
  refine g_callV (n := 3) hk (k216_X6_copyWindow l D zt q d I2557 A2557 z1 (I2557 28) hV2557) (SP.same _) (fun _ h => h) (gi_V (List.mem_cons_of_mem _ (List.mem_append_left _ (List.mem_of_getElem? (i := 13) rfl))) (List.mem_cons_of_mem _ (List.mem_append_left _ (List.mem_of_getElem? (i := 14) rfl))) (List.mem_cons_of_mem _ (List.mem_append_left _ (List.mem_of_getElem? (i := 15) rfl))) (List.mem_cons_of_mem _ (List.mem_append_left _ (List.mem_of_getElem? (i := 16) rfl))) (gi_sub (fun w h => (List.mem_cons_of_mem _ (List.mem_append_right _ (List.mem_append_right _ (List.mem_append_right _ (List.mem_append_right _ (List.mem_append_right _ (List.mem_append_left _ h)))))))) zg_k216_X6_copyWindow)) rfl rfl rfl (by decide +kernel) ⟨Nat.le_of_ble_eq_true rfl, Nat.le_of_ble_eq_true rfl⟩ 13 rfl rfl rfl rfl (Nat.le_of_ble_eq_true rfl) ⟨Nat.le_of_ble_eq_true rfl, Nat.le_of_ble_eq_true rfl⟩ dX0_openWindow_29 (fun v ty' w' hp hk' => ?_)
  obtain ⟨I2609, A2609, hI2609, hA2609, hV2609, hC, rfl, rfl⟩ := hp
  replace hF := FE.bdX hF hC
  show GW κ 3 0 0 (wX q d I2609 A2609) 32 [(0, .ref (q 37)), (1, .int z1), (2, .int z2)] []
  refine g_aload_n hk dX0_openWindow_32 rfl ?_
  refine gX_r37_3 hk hin0 (List.mem_cons_of_mem _ (List.mem_append_left _ (List.mem_of_getElem? (i := 11) rfl))) dX0_openWindow_33 ?_
  refine g_aload_n hk dX0_openWindow_36 rfl ?_
  refine gX_r37_3 hk hin0 (List.mem_cons_of_mem _ (List.mem_append_left _ (List.mem_of_getElem? (i := 11) rfl))) dX0_openWindow_37 ?_
  refine gX_r38_0 hk hin2 (List.mem_cons_of_mem _ (List.mem_append_left _ (List.mem_of_getElem? (i := 12) rfl))) dX0_openWindow_40 ?_
  refine g_aload_n hk dX0_openWindow_43 rfl ?_
  refine gX_r37_2 hk hin0 (List.mem_cons_of_mem _ (List.mem_append_left _ (List.mem_of_getElem? (i := 0) rfl))) dX0_openWindow_44 ?_
  refine g_iconst (v := 1) hk dX0_openWindow_47 (by decide) ?_
  have k2610 : (1 : Int32).toInt = 1 := rfl
  refine g_callV (n := 1) hk (k194_X7_valueOf l D zt q d I2609 A2609 1 hV2609) (SP.same _) (fun _ h => h) (gi_V (List.mem_cons_of_mem _ (List.mem_append_left _ (List.mem_of_getElem? (i := 1) rfl))) (List.mem_cons_of_mem _ (List.mem_append_left _ (List.mem_of_getElem? (i := 2) rfl))) (List.mem_cons_of_mem _ (List.mem_append_left _ (List.mem_of_getElem? (i := 3) rfl))) (List.mem_cons_of_mem _ (List.mem_append_left _ (List.mem_of_getElem? (i := 4) rfl))) (gi_sub (fun w h => (List.mem_cons_of_mem _ (List.mem_append_right _ (List.mem_append_right _ (List.mem_append_right _ (List.mem_append_left _ h)))))) zg_k174_X7_valueOf)) rfl rfl rfl (by decide +kernel) ⟨Nat.le_of_ble_eq_true rfl, Nat.le_of_ble_eq_true rfl⟩ 18 rfl rfl rfl rfl (Nat.le_of_ble_eq_true rfl) ⟨Nat.le_of_ble_eq_true rfl, Nat.le_of_ble_eq_true rfl⟩ dX0_openWindow_48 (fun v ty' w' hp hk' => ?_)
  obtain ⟨y2611, hC, rfl, rfl⟩ := hp
  replace hF := FE.lt hF (fe_s hC)
  show GW κ 3 0 0 (wX q d I2609 A2609) 51 [(0, .ref (q 37)), (1, .int z1), (2, .int z2)] [.int y2611, .ref (q 39), .ref (q 38)]
  refine g_callV (n := 2) hk (k217_X2_bringToLevel l D zt q d I2609 A2609 y2611 hV2609) (SP.same _) (fun _ h => h) (gi_V (List.mem_cons_of_mem _ (List.mem_append_left _ (List.mem_of_getElem? (i := 17) rfl))) (List.mem_cons_of_mem _ (List.mem_append_left _ (List.mem_of_getElem? (i := 18) rfl))) (List.mem_cons_of_mem _ (List.mem_append_left _ (List.mem_of_getElem? (i := 19) rfl))) (List.mem_cons_of_mem _ (List.mem_append_left _ (List.mem_of_getElem? (i := 20) rfl))) (gi_sub (fun w h => (List.mem_cons_of_mem _ (List.mem_append_right _ (List.mem_append_right _ (List.mem_append_right _ (List.mem_append_right _ (List.mem_append_right _ (List.mem_append_right _ (List.mem_append_left _ h))))))))) zg_k217_X2_bringToLevel)) rfl rfl rfl (by decide +kernel) ⟨Nat.le_of_ble_eq_true rfl, Nat.le_of_ble_eq_true rfl⟩ 38 rfl rfl rfl rfl (Nat.le_of_ble_eq_true rfl) ⟨Nat.le_of_ble_eq_true rfl, Nat.le_of_ble_eq_true rfl⟩ dX0_openWindow_51 (fun v ty' w' hp hk' => ?_)
  obtain ⟨I3102, A3102, hI3102, hA3102, hV3102, hC, rfl, rfl⟩ := hp
  replace hF := FE.bdX hF hC
  show GW κ 3 0 0 (wX q d I3102 A3102) 54 [(0, .ref (q 37)), (1, .int z1), (2, .int z2)] []
  exact g_vret hk hR ⟨I3102, A3102, (show Md [28, 30, 31, 32] I I3102 from (Md.tr (Md.tr (Md.tr Md.rf hI2557 rfl) hI2609 rfl) hI3102 rfl)), (show Md [21] A A3102 from (Md.tr (Md.tr (Md.tr Md.rf hA2557 rfl) hA2609 rfl) hA3102 rfl)), hV3102, hF, rfl, rfl⟩ dX0_openWindow_54
noncomputable def fX11_level (I : Nat → Int32) (A : Nat → Nat → Int32) (z1 : Int32) (z2 : Int32) (z3 : Int32) : Int32 × (Nat → Int32) × (Nat → Nat → Int32) := if fX11_isStretch I A z2 = 0 then ((-1000000), I, A) else if z3.toInt < 0 then ((-1000000), I, A) else if z2.toInt ≤ z3.toInt then ((-1000000), I, A) else if fX6_hasWindow I A z1 z2 = 0 then ((-1000000), I, A) else f_bdX (fX0_openWindow I A z1 z2) fun _ I3104 A3104 => ((A3104 21 z3.toNatClampNeg), I3104, A3104)
def wo_k211_X11_level : List Cond := [Cond.methodLink RX11 196 yX11_isStretch, Cond.static yX11_isStretch, Cond.initialized RX11, Cond.constant RX11 186 (-1000000), Cond.fieldLink RX11 28 "WarpDesk" "series" "LWarpDesk$Series;", Cond.methodLink RX11 183 yX6_hasWindow, Cond.instanceMethod yX6_hasWindow, Cond.selects RX6 yX6_hasWindow yX6_hasWindow, Cond.initialized RX6, Cond.fieldLink RX11 65 "WarpDesk" "bench" "LWarpDesk$Bench;", Cond.methodLink RX11 199 yX0_openWindow, Cond.instanceMethod yX0_openWindow, Cond.selects RX0 yX0_openWindow yX0_openWindow, Cond.initialized RX0, Cond.fieldLink RX11 202 "WarpDesk$Bench" "fit" "LWarpDesk$Fit;", Cond.fieldLink RX11 206 "WarpDesk$Fit" "left" "[I"]
def wz_k211_X11_level : List Cond := .code yX11_level cX11_level 4 (some .int) :: (wo_k211_X11_level ++ (wsX00 ++ (wsX20 ++ (wsX110 ++ (wz_k212_X11_isStretch ++ (wz_k207_X6_hasWindow ++ (wz_k213_X0_openWindow ++ ([] : List Cond))))))))
theorem zg_k211_X11_level : ∀ w ∈ wz_k211_X11_level, goodWord w = true := zg_cons rfl (zg_app (by decide +kernel) (zg_app zgU_wsX00 (zg_app zgU_wsX20 (zg_app zgU_wsX110 (zg_app zg_k212_X11_isStretch (zg_app zg_k207_X6_hasWindow (zg_app zg_k213_X0_openWindow zg_nil)))))))
theorem zi_k211_X11_level : ∀ w ∈ wz_k211_X11_level, w ∈ lw_tbl := zi_cons zw_925 (zi_app (zi_cons zw_926 (zi_cons zw_927 (zi_cons zw_103 (zi_cons zw_906 (zi_cons zw_489 (zi_cons zw_901 (zi_cons zw_902 (zi_cons zw_903 (zi_cons zw_109 (zi_cons zw_494 (zi_cons zw_929 (zi_cons zw_930 (zi_cons zw_931 (zi_cons zw_111 (zi_cons zw_383 (zi_cons zw_336 zi_nil)))))))))))))))) (zi_app inX0 (zi_app inX2 (zi_app inX11 (zi_app zi_k212_X11_isStretch (zi_app zi_k207_X6_hasWindow (zi_app zi_k213_X0_openWindow zi_nil)))))))
set_option maxHeartbeats 4000000 in
set_option maxRecDepth 100000 in
theorem k211_X11_level (l : Launch) (D : va_G) (zt : Nat × Nat × Nat × (Nat → Nat) × (Nat → Nat)) (q : Nat → Nat) (d : Nat → ClassId) (I : Nat → Int32) (A : Nat → Nat → Int32) (z1 : Int32) (z2 : Int32) (z3 : Int32) (hIv : IvX I A) : GM l D zt (tyX d) yX11_level wz_k211_X11_level ({ frames := 4, cells := 0, slots := 0, locals := 82 } : Room) [.ref (q 0), .int z1, .int z2, .int z3] (wX q d I A) (fun v _ w' => ∃ (I' : Nat → Int32) (A' : Nat → Nat → Int32), Md [28, 30, 31, 32] I I' ∧ Md [21] A A' ∧ IvX I' A' ∧ ∃ y0 : Int32, FE (fX11_level I A z1 z2 z3) (y0, I', A') ∧ v = some (.int y0) ∧ w' = wX q d I' A') 0 0 := by
  refine GM.of (cc := cX11_level) (maxL := 4) (ret := (some .int)) (own := RX11) (lv := [(0, .ref (q 0)), (1, .int z1), (2, .int z2), (3, .int z3)]) (by decide) rfl rfl (Nat.le_of_ble_eq_true rfl) rfl (fun κ sz hk hR hN => ?_)
  have hin0 : ∀ w ∈ u_ws RX0 TX0 5, w ∈ wz_k211_X11_level := fun w h => (List.mem_cons_of_mem _ (List.mem_append_right _ (List.mem_append_left _ h)))
  have hin2 : ∀ w ∈ u_ws RX2 TX2 10, w ∈ wz_k211_X11_level := fun w h => (List.mem_cons_of_mem _ (List.mem_append_right _ (List.mem_append_right _ (List.mem_append_left _ h))))
  have hin11 : ∀ w ∈ u_ws RX11 TX11 10, w ∈ wz_k211_X11_level := fun w h => (List.mem_cons_of_mem _ (List.mem_append_right _ (List.mem_append_right _ (List.mem_append_right _ (List.mem_append_left _ h)))))
  have hF : FE (fX11_level I A z1 z2 z3) (fX11_level I A z1 z2 z3) := FE.rf
  refine g_iload_n hk dX11_level_0 rfl ?_
  refine g_callS (n := 1) hk (k212_X11_isStretch l D zt q d I A z2 hIv) (SP.same _) (fun _ h => h) (gi_S (List.mem_cons_of_mem _ (List.mem_append_left _ (List.mem_of_getElem? (i := 0) rfl))) (List.mem_cons_of_mem _ (List.mem_append_left _ (List.mem_of_getElem? (i := 1) rfl))) (List.mem_cons_of_mem _ (List.mem_append_left _ (List.mem_of_getElem? (i := 2) rfl))) (gi_sub (fun w h => (List.mem_cons_of_mem _ (List.mem_append_right _ (List.mem_append_right _ (List.mem_append_right _ (List.mem_append_right _ (List.mem_append_left _ h))))))) zg_k212_X11_isStretch)) rfl rfl rfl (by decide +kernel) ⟨Nat.le_of_ble_eq_true rfl, Nat.le_of_ble_eq_true rfl⟩ rfl rfl (Nat.le_of_ble_eq_true rfl) ⟨Nat.le_of_ble_eq_true rfl, Nat.le_of_ble_eq_true rfl⟩ dX11_level_1 (fun v ty' w' hp hk' => ?_)
  rcases hp with ⟨hC, rfl, rfl⟩ | ⟨c2521, c2522, c2523, c2524, hC, rfl, rfl⟩
  · skip
    replace hF := FE.pos hF hC
    show GW κ 4 0 0 (wX q d I A) 4 [(0, .ref (q 0)), (1, .int z1), (2, .int z2), (3, .int z3)] [.int 0]
    refine g_if_eq (tgt := 28) (a := 0) hk dX11_level_4 (by decide) rfl (fun _ => ?_) (fun z9 => absurd (show (0 : Int) = (0 : Int) from by decide) z9)
    refine g_ldc (v := (-1000000)) hk (List.mem_cons_of_mem _ (List.mem_append_left _ (List.mem_of_getElem? (i := 3) rfl))) dX11_level_28 ?_
    exact g_iret hk hR rfl ⟨I, A, (show Md [28, 30, 31, 32] I I from Md.rf), (show Md [21] A A from Md.rf), hIv, (-1000000), hF, rfl, rfl⟩ dX11_level_30
  · skip
    replace hF := FE.neg hF (fe_ne hC (by decide))
    show GW κ 4 0 0 (wX q d I A) 4 [(0, .ref (q 0)), (1, .int z1), (2, .int z2), (3, .int z3)] [.int 1]
    refine g_if_eq (tgt := 28) (a := 1) hk dX11_level_4 (by decide) rfl (fun z9 => absurd z9 (show ¬ ((1 : Int) = (0 : Int)) from by decide)) (fun _ => ?_)
    refine g_iload_n hk dX11_level_7 rfl ?_
    have b2526l := Int32.le_toInt z3
    have b2526h := Int32.toInt_lt z3
    refine g_if_lt (tgt := 28) (a := z3.toInt) hk dX11_level_8 (by decide) rfl (fun c2527 => ?_) (fun c2527 => ?_)
    · skip
      replace hF := FE.pos hF c2527
      refine g_ldc (v := (-1000000)) hk (List.mem_cons_of_mem _ (List.mem_append_left _ (List.mem_of_getElem? (i := 3) rfl))) dX11_level_28 ?_
      exact g_iret hk hR rfl ⟨I, A, (show Md [28, 30, 31, 32] I I from Md.rf), (show Md [21] A A from Md.rf), hIv, (-1000000), hF, rfl, rfl⟩ dX11_level_30
    · skip
      replace hF := FE.neg hF c2527
      refine g_iload_n hk dX11_level_11 rfl ?_
      refine g_iload_n hk dX11_level_12 rfl ?_
      refine g_icmp_ge (tgt := 28) (a := z3.toInt) (b := z2.toInt) hk dX11_level_13 (by decide) rfl rfl (fun c2528 => ?_) (fun c2528 => ?_)
      · skip
        replace hF := FE.pos hF c2528
        refine g_ldc (v := (-1000000)) hk (List.mem_cons_of_mem _ (List.mem_append_left _ (List.mem_of_getElem? (i := 3) rfl))) dX11_level_28 ?_
        exact g_iret hk hR rfl ⟨I, A, (show Md [28, 30, 31, 32] I I from Md.rf), (show Md [21] A A from Md.rf), hIv, (-1000000), hF, rfl, rfl⟩ dX11_level_30
      · skip
        replace hF := FE.neg hF c2528
        refine g_aload_n hk dX11_level_16 rfl ?_
        refine gX_r0_2 hk hin11 (List.mem_cons_of_mem _ (List.mem_append_left _ (List.mem_of_getElem? (i := 4) rfl))) dX11_level_17 ?_
        refine g_iload_n hk dX11_level_20 rfl ?_
        refine g_iload_n hk dX11_level_21 rfl ?_
        refine g_callV (n := 2) hk (k207_X6_hasWindow l D zt q d I A z1 z2 hIv) (SP.same _) (fun _ h => h) (gi_V (List.mem_cons_of_mem _ (List.mem_append_left _ (List.mem_of_getElem? (i := 5) rfl))) (List.mem_cons_of_mem _ (List.mem_append_left _ (List.mem_of_getElem? (i := 6) rfl))) (List.mem_cons_of_mem _ (List.mem_append_left _ (List.mem_of_getElem? (i := 7) rfl))) (List.mem_cons_of_mem _ (List.mem_append_left _ (List.mem_of_getElem? (i := 8) rfl))) (gi_sub (fun w h => (List.mem_cons_of_mem _ (List.mem_append_right _ (List.mem_append_right _ (List.mem_append_right _ (List.mem_append_right _ (List.mem_append_right _ (List.mem_append_left _ h)))))))) zg_k207_X6_hasWindow)) rfl rfl rfl (by decide +kernel) ⟨Nat.le_of_ble_eq_true rfl, Nat.le_of_ble_eq_true rfl⟩ 13 rfl rfl rfl rfl (Nat.le_of_ble_eq_true rfl) ⟨Nat.le_of_ble_eq_true rfl, Nat.le_of_ble_eq_true rfl⟩ dX11_level_22 (fun v ty' w' hp hk' => ?_)
        rcases hp with ⟨hC, rfl, rfl⟩ | ⟨c2530, c2531, c2532, c2533, c2534, c2535, hC, rfl, rfl⟩
        · skip
          replace hF := FE.pos hF hC
          show GW κ 4 0 0 (wX q d I A) 25 [(0, .ref (q 0)), (1, .int z1), (2, .int z2), (3, .int z3)] [.int 0]
          refine g_if_ne (tgt := 31) (a := 0) hk dX11_level_25 (by decide) rfl (fun z9 => absurd z9 (show ¬ ((0 : Int) ≠ (0 : Int)) from by decide)) (fun _ => ?_)
          refine g_ldc (v := (-1000000)) hk (List.mem_cons_of_mem _ (List.mem_append_left _ (List.mem_of_getElem? (i := 3) rfl))) dX11_level_28 ?_
          exact g_iret hk hR rfl ⟨I, A, (show Md [28, 30, 31, 32] I I from Md.rf), (show Md [21] A A from Md.rf), hIv, (-1000000), hF, rfl, rfl⟩ dX11_level_30
        · skip
          replace hF := FE.neg hF (fe_ne hC (by decide))
          show GW κ 4 0 0 (wX q d I A) 25 [(0, .ref (q 0)), (1, .int z1), (2, .int z2), (3, .int z3)] [.int 1]
          refine g_if_ne (tgt := 31) (a := 1) hk dX11_level_25 (by decide) rfl (fun _ => ?_) (fun z9 => absurd (show (1 : Int) ≠ (0 : Int) from by decide) z9)
          refine g_aload_n hk dX11_level_31 rfl ?_
          refine gX_r0_7 hk hin11 (List.mem_cons_of_mem _ (List.mem_append_left _ (List.mem_of_getElem? (i := 9) rfl))) dX11_level_32 ?_
          refine g_iload_n hk dX11_level_35 rfl ?_
          refine g_iload_n hk dX11_level_36 rfl ?_
          refine g_callV (n := 2) hk (k213_X0_openWindow l D zt q d I A z1 z2 hIv) (SP.same _) (fun _ h => h) (gi_V (List.mem_cons_of_mem _ (List.mem_append_left _ (List.mem_of_getElem? (i := 10) rfl))) (List.mem_cons_of_mem _ (List.mem_append_left _ (List.mem_of_getElem? (i := 11) rfl))) (List.mem_cons_of_mem _ (List.mem_append_left _ (List.mem_of_getElem? (i := 12) rfl))) (List.mem_cons_of_mem _ (List.mem_append_left _ (List.mem_of_getElem? (i := 13) rfl))) (gi_sub (fun w h => (List.mem_cons_of_mem _ (List.mem_append_right _ (List.mem_append_right _ (List.mem_append_right _ (List.mem_append_right _ (List.mem_append_right _ (List.mem_append_right _ (List.mem_append_left _ h))))))))) zg_k213_X0_openWindow)) rfl rfl rfl (by decide +kernel) ⟨Nat.le_of_ble_eq_true rfl, Nat.le_of_ble_eq_true rfl⟩ 37 rfl rfl rfl rfl (Nat.le_of_ble_eq_true rfl) ⟨Nat.le_of_ble_eq_true rfl, Nat.le_of_ble_eq_true rfl⟩ dX11_level_37 (fun v ty' w' hp hk' => ?_)
          obtain ⟨I3104, A3104, hI3104, hA3104, hV3104, hC, rfl, rfl⟩ := hp
          replace hF := FE.bdX hF hC
          show GW κ 4 0 0 (wX q d I3104 A3104) 40 [(0, .ref (q 0)), (1, .int z1), (2, .int z2), (3, .int z3)] []
          refine g_aload_n hk dX11_level_40 rfl ?_
          refine gX_r0_7 hk hin11 (List.mem_cons_of_mem _ (List.mem_append_left _ (List.mem_of_getElem? (i := 9) rfl))) dX11_level_41 ?_
          refine gX_r37_3 hk hin0 (List.mem_cons_of_mem _ (List.mem_append_left _ (List.mem_of_getElem? (i := 14) rfl))) dX11_level_44 ?_
          refine gX_r38_0 hk hin2 (List.mem_cons_of_mem _ (List.mem_append_left _ (List.mem_of_getElem? (i := 15) rfl))) dX11_level_47 ?_
          refine g_iload_n hk dX11_level_50 rfl ?_
          refine lX_21 (v := (A3104 21 z3.toNatClampNeg)) hk (vp_in_iff.mpr ⟨by omega, by omega⟩) rfl dX11_level_51 ?_
          have b3105l := Int32.le_toInt (A3104 21 z3.toNatClampNeg)
          have b3105h := Int32.toInt_lt (A3104 21 z3.toNatClampNeg)
          exact g_iret hk hR rfl ⟨I3104, A3104, (show Md [28, 30, 31, 32] I I3104 from (Md.tr Md.rf hI3104 rfl)), (show Md [21] A A3104 from (Md.tr Md.rf hA3104 rfl)), hV3104, (A3104 21 z3.toNatClampNeg), hF, rfl, rfl⟩ dX11_level_52
noncomputable def fX0_hasBoth (I : Nat → Int32) (A : Nat → Nat → Int32) (z1 : Int32) (z2 : Int32) : Int32 := if fX4_has_2 I A z1 = 0 then 0 else if (fX4_lengthOf_2 I A z1).2 = 0 then if fX6_hasWindow I A z2 0 = 0 then 0 else 1 else f_lt (fX4_lengthOf_2 I A z1).1 fun y3119 => if fX6_hasWindow I A z2 y3119 = 0 then 0 else 1
def wo_k223_X0_hasBoth : List Cond := [Cond.fieldLink RX0 22 "WarpDesk$Bench" "queries" "LWarpDesk$Queries;", Cond.methodLink RX0 30 yX4_has, Cond.instanceMethod yX4_has, Cond.selects RX4 yX4_has yX4_has, Cond.initialized RX4, Cond.fieldLink RX0 18 "WarpDesk$Bench" "series" "LWarpDesk$Series;", Cond.methodLink RX0 36 yX4_lengthOf, Cond.instanceMethod yX4_lengthOf, Cond.selects RX4 yX4_lengthOf yX4_lengthOf, Cond.methodLink RX0 40 yX6_hasWindow, Cond.instanceMethod yX6_hasWindow, Cond.selects RX6 yX6_hasWindow yX6_hasWindow, Cond.initialized RX6]
def wz_k223_X0_hasBoth : List Cond := .code yX0_hasBoth cX0_hasBoth 3 (some .boolean) :: (wo_k223_X0_hasBoth ++ (wsX00 ++ (wz_k155_X4_has ++ (wz_k165_X4_lengthOf ++ (wz_k207_X6_hasWindow ++ ([] : List Cond))))))
theorem zg_k223_X0_hasBoth : ∀ w ∈ wz_k223_X0_hasBoth, goodWord w = true := zg_cons rfl (zg_app (by decide +kernel) (zg_app zgU_wsX00 (zg_app zg_k155_X4_has (zg_app zg_k165_X4_lengthOf (zg_app zg_k207_X6_hasWindow zg_nil)))))
theorem zi_k223_X0_hasBoth : ∀ w ∈ wz_k223_X0_hasBoth, w ∈ lw_tbl := zi_cons zw_976 (zi_app (zi_cons zw_376 (zi_cons zw_977 (zi_cons zw_747 (zi_cons zw_748 (zi_cons zw_108 (zi_cons zw_373 (zi_cons zw_978 (zi_cons zw_757 (zi_cons zw_758 (zi_cons zw_979 (zi_cons zw_902 (zi_cons zw_903 (zi_cons zw_109 zi_nil))))))))))))) (zi_app inX0 (zi_app zi_k155_X4_has (zi_app zi_k165_X4_lengthOf (zi_app zi_k207_X6_hasWindow zi_nil)))))
set_option maxHeartbeats 4000000 in
set_option maxRecDepth 100000 in
theorem k223_X0_hasBoth (l : Launch) (D : va_G) (zt : Nat × Nat × Nat × (Nat → Nat) × (Nat → Nat)) (q : Nat → Nat) (d : Nat → ClassId) (I : Nat → Int32) (A : Nat → Nat → Int32) (z1 : Int32) (z2 : Int32) (hIv : IvX I A) : GM l D zt (tyX d) yX0_hasBoth wz_k223_X0_hasBoth ({ frames := 3, cells := 0, slots := 0, locals := 65 } : Room) [.ref (q 37), .int z1, .int z2] (wX q d I A) (fun v _ w' => (FE (fX0_hasBoth I A z1 z2) (0) ∧ v = some (.int 0) ∧ w' = wX q d I A) ∨ ((¬ (z1.toInt < 0)) ∧ (¬ (5 ≤ z1.toInt)) ∧ (0 ≤ z1.toInt) ∧ (z1.toInt ≤ 4) ∧ (0 ≤ z1.toInt) ∧ (z1.toInt ≤ 4) ∧ (0 ≤ z2.toInt) ∧ (z2.toInt ≤ 159) ∧ FE (fX0_hasBoth I A z1 z2) (1) ∧ v = some (.int 1) ∧ w' = wX q d I A)) 0 0 := by
  refine GM.of (cc := cX0_hasBoth) (maxL := 3) (ret := (some .boolean)) (own := RX0) (lv := [(0, .ref (q 37)), (1, .int z1), (2, .int z2)]) (by decide) rfl rfl (Nat.le_of_ble_eq_true rfl) rfl (fun κ sz hk hR hN => ?_)
  have hin0 : ∀ w ∈ u_ws RX0 TX0 5, w ∈ wz_k223_X0_hasBoth := fun w h => (List.mem_cons_of_mem _ (List.mem_append_right _ (List.mem_append_left _ h)))
  have hF : FE (fX0_hasBoth I A z1 z2) (fX0_hasBoth I A z1 z2) := FE.rf
  refine g_aload_n hk dX0_hasBoth_0 rfl ?_
  refine gX_r37_1 hk hin0 (List.mem_cons_of_mem _ (List.mem_append_left _ (List.mem_of_getElem? (i := 0) rfl))) dX0_hasBoth_1 ?_
  refine g_iload_n hk dX0_hasBoth_4 rfl ?_
  refine g_callV (n := 1) hk (k168_X4_has l D zt q d I A z1 hIv) (SP.same _) (fun _ h => h) (gi_V (List.mem_cons_of_mem _ (List.mem_append_left _ (List.mem_of_getElem? (i := 1) rfl))) (List.mem_cons_of_mem _ (List.mem_append_left _ (List.mem_of_getElem? (i := 2) rfl))) (List.mem_cons_of_mem _ (List.mem_append_left _ (List.mem_of_getElem? (i := 3) rfl))) (List.mem_cons_of_mem _ (List.mem_append_left _ (List.mem_of_getElem? (i := 4) rfl))) (gi_sub (fun w h => (List.mem_cons_of_mem _ (List.mem_append_right _ (List.mem_append_right _ (List.mem_append_left _ h))))) zg_k155_X4_has)) rfl rfl rfl (by decide +kernel) ⟨Nat.le_of_ble_eq_true rfl, Nat.le_of_ble_eq_true rfl⟩ 15 rfl rfl rfl rfl (Nat.le_of_ble_eq_true rfl) ⟨Nat.le_of_ble_eq_true rfl, Nat.le_of_ble_eq_true rfl⟩ dX0_hasBoth_5 (fun v ty' w' hp hk' => ?_)
  rcases hp with ⟨hC, rfl, rfl⟩ | ⟨c3107, c3108, c3109, c3110, hC, rfl, rfl⟩
  · skip
    replace hF := FE.pos hF hC
    show GW κ 3 0 0 (wX q d I A) 8 [(0, .ref (q 37)), (1, .int z1), (2, .int z2)] [.int 0]
    refine g_if_eq (tgt := 34) (a := 0) hk dX0_hasBoth_8 (by decide) rfl (fun _ => ?_) (fun z9 => absurd (show (0 : Int) = (0 : Int) from by decide) z9)
    refine g_iconst (v := 0) hk dX0_hasBoth_34 (by decide) ?_
    exact g_iret hk hR rfl (Or.inl ⟨hF, rfl, rfl⟩) dX0_hasBoth_35
  · skip
    replace hF := FE.neg hF (fe_ne hC (by decide))
    show GW κ 3 0 0 (wX q d I A) 8 [(0, .ref (q 37)), (1, .int z1), (2, .int z2)] [.int 1]
    refine g_if_eq (tgt := 34) (a := 1) hk dX0_hasBoth_8 (by decide) rfl (fun z9 => absurd z9 (show ¬ ((1 : Int) = (0 : Int)) from by decide)) (fun _ => ?_)
    refine g_aload_n hk dX0_hasBoth_11 rfl ?_
    refine gX_r37_0 hk hin0 (List.mem_cons_of_mem _ (List.mem_append_left _ (List.mem_of_getElem? (i := 5) rfl))) dX0_hasBoth_12 ?_
    refine g_iload_n hk dX0_hasBoth_15 rfl ?_
    refine g_aload_n hk dX0_hasBoth_16 rfl ?_
    refine gX_r37_1 hk hin0 (List.mem_cons_of_mem _ (List.mem_append_left _ (List.mem_of_getElem? (i := 0) rfl))) dX0_hasBoth_17 ?_
    refine g_iload_n hk dX0_hasBoth_20 rfl ?_
    refine g_callV (n := 1) hk (k182_X4_lengthOf l D zt q d I A z1 hIv) (SP.same _) (fun _ h => h) (gi_V (List.mem_cons_of_mem _ (List.mem_append_left _ (List.mem_of_getElem? (i := 6) rfl))) (List.mem_cons_of_mem _ (List.mem_append_left _ (List.mem_of_getElem? (i := 7) rfl))) (List.mem_cons_of_mem _ (List.mem_append_left _ (List.mem_of_getElem? (i := 8) rfl))) (List.mem_cons_of_mem _ (List.mem_append_left _ (List.mem_of_getElem? (i := 4) rfl))) (gi_sub (fun w h => (List.mem_cons_of_mem _ (List.mem_append_right _ (List.mem_append_right _ (List.mem_append_right _ (List.mem_append_left _ h)))))) zg_k165_X4_lengthOf)) rfl rfl rfl (by decide +kernel) ⟨Nat.le_of_ble_eq_true rfl, Nat.le_of_ble_eq_true rfl⟩ 15 rfl rfl rfl rfl (Nat.le_of_ble_eq_true rfl) ⟨Nat.le_of_ble_eq_true rfl, Nat.le_of_ble_eq_true rfl⟩ dX0_hasBoth_21 (fun v ty' w' hp hk' => ?_)
    rcases hp with ⟨hC, rfl, rfl⟩ | ⟨y3119, c3113, c3114, c3115, c3116, c3117, c3118, c3120, c3121, hC, rfl, rfl⟩
    · skip
      replace hF := FE.pos hF (fe_2 hC)
      show GW κ 3 0 0 (wX q d I A) 24 [(0, .ref (q 37)), (1, .int z1), (2, .int z2)] [.int 0, .int z2, .ref (q 13)]
      have k3122 : (0 : Int32).toInt = 0 := rfl
      refine g_callV (n := 2) hk (k207_X6_hasWindow l D zt q d I A z2 0 hIv) (SP.same _) (fun _ h => h) (gi_V (List.mem_cons_of_mem _ (List.mem_append_left _ (List.mem_of_getElem? (i := 9) rfl))) (List.mem_cons_of_mem _ (List.mem_append_left _ (List.mem_of_getElem? (i := 10) rfl))) (List.mem_cons_of_mem _ (List.mem_append_left _ (List.mem_of_getElem? (i := 11) rfl))) (List.mem_cons_of_mem _ (List.mem_append_left _ (List.mem_of_getElem? (i := 12) rfl))) (gi_sub (fun w h => (List.mem_cons_of_mem _ (List.mem_append_right _ (List.mem_append_right _ (List.mem_append_right _ (List.mem_append_right _ (List.mem_append_left _ h))))))) zg_k207_X6_hasWindow)) rfl rfl rfl (by decide +kernel) ⟨Nat.le_of_ble_eq_true rfl, Nat.le_of_ble_eq_true rfl⟩ 13 rfl rfl rfl rfl (Nat.le_of_ble_eq_true rfl) ⟨Nat.le_of_ble_eq_true rfl, Nat.le_of_ble_eq_true rfl⟩ dX0_hasBoth_24 (fun v ty' w' hp hk' => ?_)
      rcases hp with ⟨hC, rfl, rfl⟩ | ⟨c3124, c3125, c3126, c3127, c3128, c3129, hC, rfl, rfl⟩
      · skip
        replace hF := FE.pos hF hC
        show GW κ 3 0 0 (wX q d I A) 27 [(0, .ref (q 37)), (1, .int z1), (2, .int z2)] [.int 0]
        refine g_if_eq (tgt := 34) (a := 0) hk dX0_hasBoth_27 (by decide) rfl (fun _ => ?_) (fun z9 => absurd (show (0 : Int) = (0 : Int) from by decide) z9)
        refine g_iconst (v := 0) hk dX0_hasBoth_34 (by decide) ?_
        exact g_iret hk hR rfl (Or.inl ⟨hF, rfl, rfl⟩) dX0_hasBoth_35
      · skip
        replace hF := FE.neg hF (fe_ne hC (by decide))
        show GW κ 3 0 0 (wX q d I A) 27 [(0, .ref (q 37)), (1, .int z1), (2, .int z2)] [.int 1]
        refine g_if_eq (tgt := 34) (a := 1) hk dX0_hasBoth_27 (by decide) rfl (fun z9 => absurd z9 (show ¬ ((1 : Int) = (0 : Int)) from by decide)) (fun _ => ?_)
        refine g_iconst (v := 1) hk dX0_hasBoth_30 (by decide) ?_
        refine g_goto (tgt := 35) hk dX0_hasBoth_31 (by decide) ?_
        exact g_iret hk hR rfl (Or.inr (⟨c3107, c3108, c3109, c3110, (by omega), (by omega), (by omega), (by omega), hF, rfl, rfl⟩)) dX0_hasBoth_35
    · skip
      replace hF := FE.neg hF (fe_ne2 hC (by decide))
      replace hF := FE.lt hF (fe_1 hC)
      show GW κ 3 0 0 (wX q d I A) 24 [(0, .ref (q 37)), (1, .int z1), (2, .int z2)] [.int y3119, .int z2, .ref (q 13)]
      refine g_callV (n := 2) hk (k207_X6_hasWindow l D zt q d I A z2 y3119 hIv) (SP.same _) (fun _ h => h) (gi_V (List.mem_cons_of_mem _ (List.mem_append_left _ (List.mem_of_getElem? (i := 9) rfl))) (List.mem_cons_of_mem _ (List.mem_append_left _ (List.mem_of_getElem? (i := 10) rfl))) (List.mem_cons_of_mem _ (List.mem_append_left _ (List.mem_of_getElem? (i := 11) rfl))) (List.mem_cons_of_mem _ (List.mem_append_left _ (List.mem_of_getElem? (i := 12) rfl))) (gi_sub (fun w h => (List.mem_cons_of_mem _ (List.mem_append_right _ (List.mem_append_right _ (List.mem_append_right _ (List.mem_append_right _ (List.mem_append_left _ h))))))) zg_k207_X6_hasWindow)) rfl rfl rfl (by decide +kernel) ⟨Nat.le_of_ble_eq_true rfl, Nat.le_of_ble_eq_true rfl⟩ 13 rfl rfl rfl rfl (Nat.le_of_ble_eq_true rfl) ⟨Nat.le_of_ble_eq_true rfl, Nat.le_of_ble_eq_true rfl⟩ dX0_hasBoth_24 (fun v ty' w' hp hk' => ?_)
      rcases hp with ⟨hC, rfl, rfl⟩ | ⟨c3132, c3133, c3134, c3135, c3136, c3137, hC, rfl, rfl⟩
      · skip
        replace hF := FE.pos hF hC
        show GW κ 3 0 0 (wX q d I A) 27 [(0, .ref (q 37)), (1, .int z1), (2, .int z2)] [.int 0]
        refine g_if_eq (tgt := 34) (a := 0) hk dX0_hasBoth_27 (by decide) rfl (fun _ => ?_) (fun z9 => absurd (show (0 : Int) = (0 : Int) from by decide) z9)
        refine g_iconst (v := 0) hk dX0_hasBoth_34 (by decide) ?_
        exact g_iret hk hR rfl (Or.inl ⟨hF, rfl, rfl⟩) dX0_hasBoth_35
      · skip
        replace hF := FE.neg hF (fe_ne hC (by decide))
        show GW κ 3 0 0 (wX q d I A) 27 [(0, .ref (q 37)), (1, .int z1), (2, .int z2)] [.int 1]
        refine g_if_eq (tgt := 34) (a := 1) hk dX0_hasBoth_27 (by decide) rfl (fun z9 => absurd z9 (show ¬ ((1 : Int) = (0 : Int)) from by decide)) (fun _ => ?_)
        refine g_iconst (v := 1) hk dX0_hasBoth_30 (by decide) ?_
        refine g_goto (tgt := 35) hk dX0_hasBoth_31 (by decide) ?_
        exact g_iret hk hR rfl (Or.inr (⟨c3107, c3108, c3109, c3110, (by omega), (by omega), (by omega), (by omega), hF, rfl, rfl⟩)) dX0_hasBoth_35
noncomputable def bX4_copyQuery_2 (z1 : Int32) : (Int32 → (Nat → Int32) → (Nat → Nat → Int32) → (Int32 × (Nat → Int32) × (Nat → Nat → Int32))) → Int32 → (Nat → Int32) → (Nat → Nat → Int32) → (Int32 × (Nat → Int32) × (Nat → Nat → Int32)) := fun kk3228 x3164 I3168 A3168 => if (fX4_lengthOf_2 I3168 A3168 z1).2 = 0 then (0, I3168, A3168) else f_lt (fX4_lengthOf_2 I3168 A3168 z1).1 fun y3237 => if y3237.toInt ≤ x3164.toInt then (0, I3168, A3168) else f_lt (fX4_valueAt_2 I3168 A3168 z1 x3164) fun y3241 => f_lt (x3164 + Int32.ofInt 1) fun y3242 => kk3228 y3242 I3168 (up3 A3168 21 (x3164.toNatClampNeg) y3241)
noncomputable def fX4_copyQuery (I : Nat → Int32) (A : Nat → Nat → Int32) (z1 : Int32) : Int32 × (Nat → Int32) × (Nat → Nat → Int32) := itr_iIA dfX (bX4_copyQuery_2 z1) FU 0 I A
def wo_k225_X4_copyQuery : List Cond := [Cond.methodLink RX4 26 yX4_lengthOf, Cond.instanceMethod yX4_lengthOf, Cond.selects RX4 yX4_lengthOf yX4_lengthOf, Cond.initialized RX4, Cond.methodLink RX4 33 yX4_valueAt, Cond.instanceMethod yX4_valueAt, Cond.selects RX4 yX4_valueAt yX4_valueAt]
def wz_k225_X4_copyQuery : List Cond := .code yX4_copyQuery cX4_copyQuery 4 none :: (wo_k225_X4_copyQuery ++ (wz_k165_X4_lengthOf ++ (wz_k166_X4_valueAt ++ ([] : List Cond))))
theorem zg_k225_X4_copyQuery : ∀ w ∈ wz_k225_X4_copyQuery, goodWord w = true := zg_cons rfl (zg_app (by decide +kernel) (zg_app zg_k165_X4_lengthOf (zg_app zg_k166_X4_valueAt zg_nil)))
theorem zi_k225_X4_copyQuery : ∀ w ∈ wz_k225_X4_copyQuery, w ∈ lw_tbl := zi_cons zw_987 (zi_app (zi_cons zw_756 (zi_cons zw_757 (zi_cons zw_758 (zi_cons zw_108 (zi_cons zw_760 (zi_cons zw_761 (zi_cons zw_762 zi_nil))))))) (zi_app zi_k165_X4_lengthOf (zi_app zi_k166_X4_valueAt zi_nil)))
set_option maxHeartbeats 4000000 in
set_option maxRecDepth 100000 in
theorem k225_X4_copyQuery (l : Launch) (D : va_G) (zt : Nat × Nat × Nat × (Nat → Nat) × (Nat → Nat)) (q : Nat → Nat) (d : Nat → ClassId) (I : Nat → Int32) (A : Nat → Nat → Int32) (z1 : Int32) (hIv : IvX I A) : GM l D zt (tyX d) yX4_copyQuery wz_k225_X4_copyQuery ({ frames := 3, cells := 0, slots := 0, locals := 64 } : Room) [.ref (q 15), .int z1, .ref (q 39)] (wX q d I A) (fun v _ w' => ∃ (I' : Nat → Int32) (A' : Nat → Nat → Int32), Md [] I I' ∧ Md [21] A A' ∧ IvX I' A' ∧ FE (fX4_copyQuery I A z1) (0, I', A') ∧ v = none ∧ w' = wX q d I' A') 0 0 := by
  refine GM.of (cc := cX4_copyQuery) (maxL := 4) (ret := none) (own := RX4) (lv := [(0, .ref (q 15)), (1, .int z1), (2, .ref (q 39))]) (by decide) rfl rfl (Nat.le_of_ble_eq_true rfl) rfl (fun κ sz hk hR hN => ?_)
  have hF : FE (fX4_copyQuery I A z1) (fX4_copyQuery I A z1) := FE.rf
  refine g_iconst (v := 0) hk dX4_copyQuery_0 (by decide) ?_
  refine g_istore_n (lv' := [(3, .int 0), (0, .ref (q 15)), (1, .int z1), (2, .ref (q 39))]) hk dX4_copyQuery_1 (by decide) rfl ?_
  have lp3225 : ∀ (n3226 : Nat) (x3164 : Int32) (I3168 : Nat → Int32) (A3168 : Nat → Nat → Int32), (Md [] I I3168) → (Md [21] A A3168) → (IvX I3168 A3168) → (0 ≤ x3164.toInt) → (x3164.toInt ≤ 16) → (17 - x3164.toInt < (n3226 : Int)) → (0 < n3226) → (FE (fX4_copyQuery I A z1) (itr_iIA dfX (bX4_copyQuery_2 z1) n3226 x3164 I3168 A3168)) → GW κ 4 0 0 (wX q d I3168 A3168) 2 [(3, .int x3164), (0, .ref (q 15)), (1, .int z1), (2, .ref (q 39))] [] := by
    intro n3226
    induction n3226 with
    | zero =>
      intro x3164 I3168 A3168 hI3168 hA3168 hV3168 h3223 h3224 m3227 m3227z hF
      exact absurd m3227z (Nat.lt_irrefl 0)
    | succ n3226 ih3229 =>
      intro x3164 I3168 A3168 hI3168 hA3168 hV3168 h3223 h3224 m3227 m3227z hF
      replace hF := FE.itr_iIA hF
      refine g_iload_n hk dX4_copyQuery_2 rfl ?_
      refine g_aload_n hk dX4_copyQuery_3 rfl ?_
      refine g_iload_n hk dX4_copyQuery_4 rfl ?_
      refine g_callV (n := 1) hk (k182_X4_lengthOf l D zt q d I3168 A3168 z1 hV3168) (SP.same _) (fun _ h => h) (gi_V (List.mem_cons_of_mem _ (List.mem_append_left _ (List.mem_of_getElem? (i := 0) rfl))) (List.mem_cons_of_mem _ (List.mem_append_left _ (List.mem_of_getElem? (i := 1) rfl))) (List.mem_cons_of_mem _ (List.mem_append_left _ (List.mem_of_getElem? (i := 2) rfl))) (List.mem_cons_of_mem _ (List.mem_append_left _ (List.mem_of_getElem? (i := 3) rfl))) (gi_sub (fun w h => (List.mem_cons_of_mem _ (List.mem_append_right _ (List.mem_append_left _ h)))) zg_k165_X4_lengthOf)) rfl rfl rfl (by decide +kernel) ⟨Nat.le_of_ble_eq_true rfl, Nat.le_of_ble_eq_true rfl⟩ 15 rfl rfl rfl rfl (Nat.le_of_ble_eq_true rfl) ⟨Nat.le_of_ble_eq_true rfl, Nat.le_of_ble_eq_true rfl⟩ dX4_copyQuery_5 (fun v ty' w' hp hk' => ?_)
      rcases hp with ⟨hC, rfl, rfl⟩ | ⟨y3237, c3231, c3232, c3233, c3234, c3235, c3236, c3238, c3239, hC, rfl, rfl⟩
      · skip
        replace hF := FE.pos hF (fe_2 hC)
        show GW κ 4 0 0 (wX q d I3168 A3168) 8 [(3, .int x3164), (0, .ref (q 15)), (1, .int z1), (2, .ref (q 39))] [.int 0, .int x3164]
        refine g_icmp_ge (tgt := 32) (a := x3164.toInt) (b := 0) hk dX4_copyQuery_8 (by decide) rfl rfl (fun _ => ?_) (fun z9 => absurd (show 0 ≤ x3164.toInt from by omega) z9)
        exact g_vret hk hR ⟨I3168, A3168, (show Md [] I I3168 from (Md.tr Md.rf hI3168 rfl)), (show Md [21] A A3168 from (Md.tr Md.rf hA3168 rfl)), hV3168, hF, rfl, rfl⟩ dX4_copyQuery_32
      · skip
        replace hF := FE.neg hF (fe_ne2 hC (by decide))
        replace hF := FE.lt hF (fe_1 hC)
        show GW κ 4 0 0 (wX q d I3168 A3168) 8 [(3, .int x3164), (0, .ref (q 15)), (1, .int z1), (2, .ref (q 39))] [.int y3237, .int x3164]
        refine g_icmp_ge (tgt := 32) (a := x3164.toInt) (b := y3237.toInt) hk dX4_copyQuery_8 (by decide) rfl rfl (fun c3240 => ?_) (fun c3240 => ?_)
        · skip
          replace hF := FE.pos hF c3240
          exact g_vret hk hR ⟨I3168, A3168, (show Md [] I I3168 from (Md.tr Md.rf hI3168 rfl)), (show Md [21] A A3168 from (Md.tr Md.rf hA3168 rfl)), hV3168, hF, rfl, rfl⟩ dX4_copyQuery_32
        · skip
          replace hF := FE.neg hF c3240
          refine g_iload_n hk dX4_copyQuery_11 rfl ?_
          refine g_aload_n hk dX4_copyQuery_12 rfl ?_
          refine nX_21 hk dX4_copyQuery_13 ?_
          refine g_icmp_ge (tgt := 32) (a := x3164.toInt) (b := 16) hk dX4_copyQuery_14 (by decide) rfl rfl (fun z9 => absurd z9 (show ¬ (16 ≤ x3164.toInt) from by omega)) (fun _ => ?_)
          refine g_aload_n hk dX4_copyQuery_17 rfl ?_
          refine g_iload_n hk dX4_copyQuery_18 rfl ?_
          refine g_aload_n hk dX4_copyQuery_19 rfl ?_
          refine g_iload_n hk dX4_copyQuery_20 rfl ?_
          refine g_iload_n hk dX4_copyQuery_21 rfl ?_
          refine g_callV (n := 2) hk (k181_X4_valueAt l D zt q d I3168 A3168 z1 x3164 hV3168) (SP.same _) (fun _ h => h) (gi_V (List.mem_cons_of_mem _ (List.mem_append_left _ (List.mem_of_getElem? (i := 4) rfl))) (List.mem_cons_of_mem _ (List.mem_append_left _ (List.mem_of_getElem? (i := 5) rfl))) (List.mem_cons_of_mem _ (List.mem_append_left _ (List.mem_of_getElem? (i := 6) rfl))) (List.mem_cons_of_mem _ (List.mem_append_left _ (List.mem_of_getElem? (i := 3) rfl))) (gi_sub (fun w h => (List.mem_cons_of_mem _ (List.mem_append_right _ (List.mem_append_right _ (List.mem_append_left _ h))))) zg_k166_X4_valueAt)) rfl rfl rfl (by decide +kernel) ⟨Nat.le_of_ble_eq_true rfl, Nat.le_of_ble_eq_true rfl⟩ 15 rfl rfl rfl rfl (Nat.le_of_ble_eq_true rfl) ⟨Nat.le_of_ble_eq_true rfl, Nat.le_of_ble_eq_true rfl⟩ dX4_copyQuery_22 (fun v ty' w' hp hk' => ?_)
          obtain ⟨y3241, hC, rfl, rfl⟩ := hp
          replace hF := FE.lt hF (fe_s hC)
          show GW κ 4 0 0 (wX q d I3168 A3168) 25 [(3, .int x3164), (0, .ref (q 15)), (1, .int z1), (2, .ref (q 39))] [.int y3241, .int x3164, .ref (q 39)]
          refine sX_21 (j := x3164.toNatClampNeg) hk (vp_in_iff.mpr ⟨by omega, by omega⟩) rfl dX4_copyQuery_25 ?_
          obtain ⟨y3242, ey3242⟩ : ∃ y : Int32, y = x3164 + Int32.ofInt 1 := ⟨_, rfl⟩
          replace hF := FE.lt hF ey3242
          have hy3242 : y3242.toInt = x3164.toInt + 1 := i32_add ey3242 rfl (by decide) (by omega) (by omega)
          refine g_iinc (v := y3242) (lv' := [(3, .int y3242), (0, .ref (q 15)), (1, .int z1), (2, .ref (q 39))]) hk 0 dX4_copyQuery_26 rfl ey3242.symm (by decide) rfl ?_
          refine g_goto (tgt := 2) hk dX4_copyQuery_29 (by decide) ?_
          exact g_lv (List.forall_mem_cons.mpr ⟨List.mem_of_getElem? (i := 0) rfl, (List.forall_mem_cons.mpr ⟨List.mem_of_getElem? (i := 1) rfl, (List.forall_mem_cons.mpr ⟨List.mem_of_getElem? (i := 2) rfl, (List.forall_mem_cons.mpr ⟨List.mem_of_getElem? (i := 3) rfl, (fun _ h => absurd h List.not_mem_nil)⟩)⟩)⟩)⟩) (ih3229 y3242 I3168 (up3 A3168 21 (x3164.toNatClampNeg) y3241) (show Md [] I I3168 from Md.tr hI3168 (show Md [] I3168 I3168 from Md.rf) rfl) (show Md [21] A (up3 A3168 21 (x3164.toNatClampNeg) y3241) from Md.tr hA3168 (show Md [21] A3168 (up3 A3168 21 (x3164.toNatClampNeg) y3241) from (Md.up3 Md.rf rfl)) rfl) ⟨(IvX_f0 (I := I3168) (A := A3168) hV3168), (IvX_f18 (I := I3168) (A := A3168) hV3168), (IvX_f30 (I := I3168) (A := A3168) hV3168), (IvX_f31 (I := I3168) (A := A3168) hV3168), (IvX_a4 (I := I3168) (A := A3168) hV3168), (IvX_a9 (I := I3168) (A := A3168) hV3168), trivial⟩ (by omega) (by omega) (by omega) (by omega) hF)
  have k3244 : (0 : Int32).toInt = 0 := rfl
  have n3243a : 17 - 0 < (FU : Int) := by have := FU_eq; omega
  have n3243b : 0 < FU := by have := FU_eq; omega
  exact lp3225 FU 0 I A Md.rf Md.rf hIv (by omega) (by omega) n3243a n3243b hF
noncomputable def fX0_openQuery (I : Nat → Int32) (A : Nat → Nat → Int32) (z1 : Int32) (z2 : Int32) : Int32 × (Nat → Int32) × (Nat → Nat → Int32) := if (fX4_lengthOf_2 I A z1).2 = 0 then f_bdX (fX0_begin I A 0 z2) fun _ I3163 A3163 => f_bdX (fX4_copyQuery I3163 A3163 z1) fun _ I3246 A3246 => f_lt (fX7_valueOf_2 I3246 A3246 1) fun y3248 => f_bdX (fX2_bringToLevel I3246 A3246 y3248) fun _ I3250 A3250 => (0, I3250, A3250) else f_lt (fX4_lengthOf_2 I A z1).1 fun y3158 => f_bdX (fX0_begin I A y3158 z2) fun _ I3252 A3252 => f_bdX (fX4_copyQuery I3252 A3252 z1) fun _ I3254 A3254 => f_lt (fX7_valueOf_2 I3254 A3254 1) fun y3256 => f_bdX (fX2_bringToLevel I3254 A3254 y3256) fun _ I3258 A3258 => (0, I3258, A3258)
def wo_k224_X0_openQuery : List Cond := [Cond.fieldLink RX0 22 "WarpDesk$Bench" "queries" "LWarpDesk$Queries;", Cond.methodLink RX0 36 yX4_lengthOf, Cond.instanceMethod yX4_lengthOf, Cond.selects RX4 yX4_lengthOf yX4_lengthOf, Cond.initialized RX4, Cond.methodLink RX0 62 yX0_begin, Cond.instanceMethod yX0_begin, Cond.selects RX0 yX0_begin yX0_begin, Cond.initialized RX0, Cond.fieldLink RX0 12 "WarpDesk$Bench" "fit" "LWarpDesk$Fit;", Cond.fieldLink RX0 65 "WarpDesk$Fit" "left" "[I", Cond.methodLink RX0 69 yX4_copyQuery, Cond.instanceMethod yX4_copyQuery, Cond.selects RX4 yX4_copyQuery yX4_copyQuery, Cond.fieldLink RX0 26 "WarpDesk$Bench" "settings" "LWarpDesk$Settings;", Cond.methodLink RX0 49 yX7_valueOf, Cond.instanceMethod yX7_valueOf, Cond.selects RX7 yX7_valueOf yX7_valueOf, Cond.initialized RX7, Cond.methodLink RX0 73 yX2_bringToLevel, Cond.instanceMethod yX2_bringToLevel, Cond.selects RX2 yX2_bringToLevel yX2_bringToLevel, Cond.initialized RX2]
def wz_k224_X0_openQuery : List Cond := .code yX0_openQuery cX0_openQuery 3 none :: (wo_k224_X0_openQuery ++ (wsX00 ++ (wsX20 ++ (wz_k165_X4_lengthOf ++ (wz_k214_X0_begin ++ (wz_k225_X4_copyQuery ++ (wz_k174_X7_valueOf ++ (wz_k217_X2_bringToLevel ++ ([] : List Cond)))))))))
theorem zg_k224_X0_openQuery : ∀ w ∈ wz_k224_X0_openQuery, goodWord w = true := zg_cons rfl (zg_app (by decide +kernel) (zg_app zgU_wsX00 (zg_app zgU_wsX20 (zg_app zg_k165_X4_lengthOf (zg_app zg_k214_X0_begin (zg_app zg_k225_X4_copyQuery (zg_app zg_k174_X7_valueOf (zg_app zg_k217_X2_bringToLevel zg_nil))))))))
theorem zi_k224_X0_openQuery : ∀ w ∈ wz_k224_X0_openQuery, w ∈ lw_tbl := zi_cons zw_983 (zi_app (zi_cons zw_376 (zi_cons zw_978 (zi_cons zw_757 (zi_cons zw_758 (zi_cons zw_108 (zi_cons zw_934 (zi_cons zw_936 (zi_cons zw_24 (zi_cons zw_111 (zi_cons zw_380 (zi_cons zw_335 (zi_cons zw_984 (zi_cons zw_985 (zi_cons zw_986 (zi_cons zw_378 (zi_cons zw_933 (zi_cons zw_786 (zi_cons zw_787 (zi_cons zw_107 (zi_cons zw_948 (zi_cons zw_949 (zi_cons zw_950 (zi_cons zw_112 zi_nil))))))))))))))))))))))) (zi_app inX0 (zi_app inX2 (zi_app zi_k165_X4_lengthOf (zi_app zi_k214_X0_begin (zi_app zi_k225_X4_copyQuery (zi_app zi_k174_X7_valueOf (zi_app zi_k217_X2_bringToLevel zi_nil))))))))
set_option maxHeartbeats 4000000 in
set_option maxRecDepth 100000 in
theorem k224_X0_openQuery (l : Launch) (D : va_G) (zt : Nat × Nat × Nat × (Nat → Nat) × (Nat → Nat)) (q : Nat → Nat) (d : Nat → ClassId) (I : Nat → Int32) (A : Nat → Nat → Int32) (z1 : Int32) (z2 : Int32) (hIv : IvX I A) : GM l D zt (tyX d) yX0_openQuery wz_k224_X0_openQuery ({ frames := 4, cells := 0, slots := 0, locals := 87 } : Room) [.ref (q 37), .int z1, .int z2] (wX q d I A) (fun v _ w' => ∃ (I' : Nat → Int32) (A' : Nat → Nat → Int32), Md [28, 30, 31, 32] I I' ∧ Md [21] A A' ∧ IvX I' A' ∧ FE (fX0_openQuery I A z1 z2) (0, I', A') ∧ v = none ∧ w' = wX q d I' A') 0 0 := by
  refine GM.of (cc := cX0_openQuery) (maxL := 3) (ret := none) (own := RX0) (lv := [(0, .ref (q 37)), (1, .int z1), (2, .int z2)]) (by decide) rfl rfl (Nat.le_of_ble_eq_true rfl) rfl (fun κ sz hk hR hN => ?_)
  have hin0 : ∀ w ∈ u_ws RX0 TX0 5, w ∈ wz_k224_X0_openQuery := fun w h => (List.mem_cons_of_mem _ (List.mem_append_right _ (List.mem_append_left _ h)))
  have hin2 : ∀ w ∈ u_ws RX2 TX2 10, w ∈ wz_k224_X0_openQuery := fun w h => (List.mem_cons_of_mem _ (List.mem_append_right _ (List.mem_append_right _ (List.mem_append_left _ h))))
  have hF : FE (fX0_openQuery I A z1 z2) (fX0_openQuery I A z1 z2) := FE.rf
  refine g_aload_n hk dX0_openQuery_0 rfl ?_
  refine g_aload_n hk dX0_openQuery_1 rfl ?_
  refine gX_r37_1 hk hin0 (List.mem_cons_of_mem _ (List.mem_append_left _ (List.mem_of_getElem? (i := 0) rfl))) dX0_openQuery_2 ?_
  refine g_iload_n hk dX0_openQuery_5 rfl ?_
  refine g_callV (n := 1) hk (k182_X4_lengthOf l D zt q d I A z1 hIv) (SP.same _) (fun _ h => h) (gi_V (List.mem_cons_of_mem _ (List.mem_append_left _ (List.mem_of_getElem? (i := 1) rfl))) (List.mem_cons_of_mem _ (List.mem_append_left _ (List.mem_of_getElem? (i := 2) rfl))) (List.mem_cons_of_mem _ (List.mem_append_left _ (List.mem_of_getElem? (i := 3) rfl))) (List.mem_cons_of_mem _ (List.mem_append_left _ (List.mem_of_getElem? (i := 4) rfl))) (gi_sub (fun w h => (List.mem_cons_of_mem _ (List.mem_append_right _ (List.mem_append_right _ (List.mem_append_right _ (List.mem_append_left _ h)))))) zg_k165_X4_lengthOf)) rfl rfl rfl (by decide +kernel) ⟨Nat.le_of_ble_eq_true rfl, Nat.le_of_ble_eq_true rfl⟩ 15 rfl rfl rfl rfl (Nat.le_of_ble_eq_true rfl) ⟨Nat.le_of_ble_eq_true rfl, Nat.le_of_ble_eq_true rfl⟩ dX0_openQuery_6 (fun v ty' w' hp hk' => ?_)
  rcases hp with ⟨hC, rfl, rfl⟩ | ⟨y3158, c3152, c3153, c3154, c3155, c3156, c3157, c3159, c3160, hC, rfl, rfl⟩
  · skip
    replace hF := FE.pos hF (fe_2 hC)
    show GW κ 3 0 0 (wX q d I A) 9 [(0, .ref (q 37)), (1, .int z1), (2, .int z2)] [.int 0, .ref (q 37)]
    refine g_iload_n hk dX0_openQuery_9 rfl ?_
    have k3161 : (0 : Int32).toInt = 0 := rfl
    refine g_callV (n := 2) hk (k214_X0_begin l D zt q d I A 0 z2 hIv) (SP.same _) (fun _ h => h) (gi_V (List.mem_cons_of_mem _ (List.mem_append_left _ (List.mem_of_getElem? (i := 5) rfl))) (List.mem_cons_of_mem _ (List.mem_append_left _ (List.mem_of_getElem? (i := 6) rfl))) (List.mem_cons_of_mem _ (List.mem_append_left _ (List.mem_of_getElem? (i := 7) rfl))) (List.mem_cons_of_mem _ (List.mem_append_left _ (List.mem_of_getElem? (i := 8) rfl))) (gi_sub (fun w h => (List.mem_cons_of_mem _ (List.mem_append_right _ (List.mem_append_right _ (List.mem_append_right _ (List.mem_append_right _ (List.mem_append_left _ h))))))) zg_k214_X0_begin)) rfl rfl rfl (by decide +kernel) ⟨Nat.le_of_ble_eq_true rfl, Nat.le_of_ble_eq_true rfl⟩ 37 rfl rfl rfl rfl (Nat.le_of_ble_eq_true rfl) ⟨Nat.le_of_ble_eq_true rfl, Nat.le_of_ble_eq_true rfl⟩ dX0_openQuery_10 (fun v ty' w' hp hk' => ?_)
    obtain ⟨I3163, A3163, hI3163, hA3163, hV3163, hC, rfl, rfl⟩ := hp
    replace hF := FE.bdX hF hC
    show GW κ 3 0 0 (wX q d I3163 A3163) 13 [(0, .ref (q 37)), (1, .int z1), (2, .int z2)] []
    refine g_aload_n hk dX0_openQuery_13 rfl ?_
    refine gX_r37_1 hk hin0 (List.mem_cons_of_mem _ (List.mem_append_left _ (List.mem_of_getElem? (i := 0) rfl))) dX0_openQuery_14 ?_
    refine g_iload_n hk dX0_openQuery_17 rfl ?_
    refine g_aload_n hk dX0_openQuery_18 rfl ?_
    refine gX_r37_3 hk hin0 (List.mem_cons_of_mem _ (List.mem_append_left _ (List.mem_of_getElem? (i := 9) rfl))) dX0_openQuery_19 ?_
    refine gX_r38_0 hk hin2 (List.mem_cons_of_mem _ (List.mem_append_left _ (List.mem_of_getElem? (i := 10) rfl))) dX0_openQuery_22 ?_
    refine g_callV (n := 2) hk (k225_X4_copyQuery l D zt q d I3163 A3163 z1 hV3163) (SP.same _) (fun _ h => h) (gi_V (List.mem_cons_of_mem _ (List.mem_append_left _ (List.mem_of_getElem? (i := 11) rfl))) (List.mem_cons_of_mem _ (List.mem_append_left _ (List.mem_of_getElem? (i := 12) rfl))) (List.mem_cons_of_mem _ (List.mem_append_left _ (List.mem_of_getElem? (i := 13) rfl))) (List.mem_cons_of_mem _ (List.mem_append_left _ (List.mem_of_getElem? (i := 4) rfl))) (gi_sub (fun w h => (List.mem_cons_of_mem _ (List.mem_append_right _ (List.mem_append_right _ (List.mem_append_right _ (List.mem_append_right _ (List.mem_append_right _ (List.mem_append_left _ h)))))))) zg_k225_X4_copyQuery)) rfl rfl rfl (by decide +kernel) ⟨Nat.le_of_ble_eq_true rfl, Nat.le_of_ble_eq_true rfl⟩ 15 rfl rfl rfl rfl (Nat.le_of_ble_eq_true rfl) ⟨Nat.le_of_ble_eq_true rfl, Nat.le_of_ble_eq_true rfl⟩ dX0_openQuery_25 (fun v ty' w' hp hk' => ?_)
    obtain ⟨I3246, A3246, hI3246, hA3246, hV3246, hC, rfl, rfl⟩ := hp
    replace hF := FE.bdX hF hC
    show GW κ 3 0 0 (wX q d I3246 A3246) 28 [(0, .ref (q 37)), (1, .int z1), (2, .int z2)] []
    refine g_aload_n hk dX0_openQuery_28 rfl ?_
    refine gX_r37_3 hk hin0 (List.mem_cons_of_mem _ (List.mem_append_left _ (List.mem_of_getElem? (i := 9) rfl))) dX0_openQuery_29 ?_
    refine g_aload_n hk dX0_openQuery_32 rfl ?_
    refine gX_r37_3 hk hin0 (List.mem_cons_of_mem _ (List.mem_append_left _ (List.mem_of_getElem? (i := 9) rfl))) dX0_openQuery_33 ?_
    refine gX_r38_0 hk hin2 (List.mem_cons_of_mem _ (List.mem_append_left _ (List.mem_of_getElem? (i := 10) rfl))) dX0_openQuery_36 ?_
    refine g_aload_n hk dX0_openQuery_39 rfl ?_
    refine gX_r37_2 hk hin0 (List.mem_cons_of_mem _ (List.mem_append_left _ (List.mem_of_getElem? (i := 14) rfl))) dX0_openQuery_40 ?_
    refine g_iconst (v := 1) hk dX0_openQuery_43 (by decide) ?_
    have k3247 : (1 : Int32).toInt = 1 := rfl
    refine g_callV (n := 1) hk (k194_X7_valueOf l D zt q d I3246 A3246 1 hV3246) (SP.same _) (fun _ h => h) (gi_V (List.mem_cons_of_mem _ (List.mem_append_left _ (List.mem_of_getElem? (i := 15) rfl))) (List.mem_cons_of_mem _ (List.mem_append_left _ (List.mem_of_getElem? (i := 16) rfl))) (List.mem_cons_of_mem _ (List.mem_append_left _ (List.mem_of_getElem? (i := 17) rfl))) (List.mem_cons_of_mem _ (List.mem_append_left _ (List.mem_of_getElem? (i := 18) rfl))) (gi_sub (fun w h => (List.mem_cons_of_mem _ (List.mem_append_right _ (List.mem_append_right _ (List.mem_append_right _ (List.mem_append_right _ (List.mem_append_right _ (List.mem_append_right _ (List.mem_append_left _ h))))))))) zg_k174_X7_valueOf)) rfl rfl rfl (by decide +kernel) ⟨Nat.le_of_ble_eq_true rfl, Nat.le_of_ble_eq_true rfl⟩ 18 rfl rfl rfl rfl (Nat.le_of_ble_eq_true rfl) ⟨Nat.le_of_ble_eq_true rfl, Nat.le_of_ble_eq_true rfl⟩ dX0_openQuery_44 (fun v ty' w' hp hk' => ?_)
    obtain ⟨y3248, hC, rfl, rfl⟩ := hp
    replace hF := FE.lt hF (fe_s hC)
    show GW κ 3 0 0 (wX q d I3246 A3246) 47 [(0, .ref (q 37)), (1, .int z1), (2, .int z2)] [.int y3248, .ref (q 39), .ref (q 38)]
    refine g_callV (n := 2) hk (k217_X2_bringToLevel l D zt q d I3246 A3246 y3248 hV3246) (SP.same _) (fun _ h => h) (gi_V (List.mem_cons_of_mem _ (List.mem_append_left _ (List.mem_of_getElem? (i := 19) rfl))) (List.mem_cons_of_mem _ (List.mem_append_left _ (List.mem_of_getElem? (i := 20) rfl))) (List.mem_cons_of_mem _ (List.mem_append_left _ (List.mem_of_getElem? (i := 21) rfl))) (List.mem_cons_of_mem _ (List.mem_append_left _ (List.mem_of_getElem? (i := 22) rfl))) (gi_sub (fun w h => (List.mem_cons_of_mem _ (List.mem_append_right _ (List.mem_append_right _ (List.mem_append_right _ (List.mem_append_right _ (List.mem_append_right _ (List.mem_append_right _ (List.mem_append_right _ (List.mem_append_left _ h)))))))))) zg_k217_X2_bringToLevel)) rfl rfl rfl (by decide +kernel) ⟨Nat.le_of_ble_eq_true rfl, Nat.le_of_ble_eq_true rfl⟩ 38 rfl rfl rfl rfl (Nat.le_of_ble_eq_true rfl) ⟨Nat.le_of_ble_eq_true rfl, Nat.le_of_ble_eq_true rfl⟩ dX0_openQuery_47 (fun v ty' w' hp hk' => ?_)
    obtain ⟨I3250, A3250, hI3250, hA3250, hV3250, hC, rfl, rfl⟩ := hp
    replace hF := FE.bdX hF hC
    show GW κ 3 0 0 (wX q d I3250 A3250) 50 [(0, .ref (q 37)), (1, .int z1), (2, .int z2)] []
    exact g_vret hk hR ⟨I3250, A3250, (show Md [28, 30, 31, 32] I I3250 from (Md.tr (Md.tr (Md.tr Md.rf hI3163 rfl) hI3246 rfl) hI3250 rfl)), (show Md [21] A A3250 from (Md.tr (Md.tr (Md.tr Md.rf hA3163 rfl) hA3246 rfl) hA3250 rfl)), hV3250, hF, rfl, rfl⟩ dX0_openQuery_50
  · skip
    replace hF := FE.neg hF (fe_ne2 hC (by decide))
    replace hF := FE.lt hF (fe_1 hC)
    show GW κ 3 0 0 (wX q d I A) 9 [(0, .ref (q 37)), (1, .int z1), (2, .int z2)] [.int y3158, .ref (q 37)]
    refine g_iload_n hk dX0_openQuery_9 rfl ?_
    refine g_callV (n := 2) hk (k214_X0_begin l D zt q d I A y3158 z2 hIv) (SP.same _) (fun _ h => h) (gi_V (List.mem_cons_of_mem _ (List.mem_append_left _ (List.mem_of_getElem? (i := 5) rfl))) (List.mem_cons_of_mem _ (List.mem_append_left _ (List.mem_of_getElem? (i := 6) rfl))) (List.mem_cons_of_mem _ (List.mem_append_left _ (List.mem_of_getElem? (i := 7) rfl))) (List.mem_cons_of_mem _ (List.mem_append_left _ (List.mem_of_getElem? (i := 8) rfl))) (gi_sub (fun w h => (List.mem_cons_of_mem _ (List.mem_append_right _ (List.mem_append_right _ (List.mem_append_right _ (List.mem_append_right _ (List.mem_append_left _ h))))))) zg_k214_X0_begin)) rfl rfl rfl (by decide +kernel) ⟨Nat.le_of_ble_eq_true rfl, Nat.le_of_ble_eq_true rfl⟩ 37 rfl rfl rfl rfl (Nat.le_of_ble_eq_true rfl) ⟨Nat.le_of_ble_eq_true rfl, Nat.le_of_ble_eq_true rfl⟩ dX0_openQuery_10 (fun v ty' w' hp hk' => ?_)
    obtain ⟨I3252, A3252, hI3252, hA3252, hV3252, hC, rfl, rfl⟩ := hp
    replace hF := FE.bdX hF hC
    show GW κ 3 0 0 (wX q d I3252 A3252) 13 [(0, .ref (q 37)), (1, .int z1), (2, .int z2)] []
    refine g_aload_n hk dX0_openQuery_13 rfl ?_
    refine gX_r37_1 hk hin0 (List.mem_cons_of_mem _ (List.mem_append_left _ (List.mem_of_getElem? (i := 0) rfl))) dX0_openQuery_14 ?_
    refine g_iload_n hk dX0_openQuery_17 rfl ?_
    refine g_aload_n hk dX0_openQuery_18 rfl ?_
    refine gX_r37_3 hk hin0 (List.mem_cons_of_mem _ (List.mem_append_left _ (List.mem_of_getElem? (i := 9) rfl))) dX0_openQuery_19 ?_
    refine gX_r38_0 hk hin2 (List.mem_cons_of_mem _ (List.mem_append_left _ (List.mem_of_getElem? (i := 10) rfl))) dX0_openQuery_22 ?_
    refine g_callV (n := 2) hk (k225_X4_copyQuery l D zt q d I3252 A3252 z1 hV3252) (SP.same _) (fun _ h => h) (gi_V (List.mem_cons_of_mem _ (List.mem_append_left _ (List.mem_of_getElem? (i := 11) rfl))) (List.mem_cons_of_mem _ (List.mem_append_left _ (List.mem_of_getElem? (i := 12) rfl))) (List.mem_cons_of_mem _ (List.mem_append_left _ (List.mem_of_getElem? (i := 13) rfl))) (List.mem_cons_of_mem _ (List.mem_append_left _ (List.mem_of_getElem? (i := 4) rfl))) (gi_sub (fun w h => (List.mem_cons_of_mem _ (List.mem_append_right _ (List.mem_append_right _ (List.mem_append_right _ (List.mem_append_right _ (List.mem_append_right _ (List.mem_append_left _ h)))))))) zg_k225_X4_copyQuery)) rfl rfl rfl (by decide +kernel) ⟨Nat.le_of_ble_eq_true rfl, Nat.le_of_ble_eq_true rfl⟩ 15 rfl rfl rfl rfl (Nat.le_of_ble_eq_true rfl) ⟨Nat.le_of_ble_eq_true rfl, Nat.le_of_ble_eq_true rfl⟩ dX0_openQuery_25 (fun v ty' w' hp hk' => ?_)
    obtain ⟨I3254, A3254, hI3254, hA3254, hV3254, hC, rfl, rfl⟩ := hp
    replace hF := FE.bdX hF hC
    show GW κ 3 0 0 (wX q d I3254 A3254) 28 [(0, .ref (q 37)), (1, .int z1), (2, .int z2)] []
    refine g_aload_n hk dX0_openQuery_28 rfl ?_
    refine gX_r37_3 hk hin0 (List.mem_cons_of_mem _ (List.mem_append_left _ (List.mem_of_getElem? (i := 9) rfl))) dX0_openQuery_29 ?_
    refine g_aload_n hk dX0_openQuery_32 rfl ?_
    refine gX_r37_3 hk hin0 (List.mem_cons_of_mem _ (List.mem_append_left _ (List.mem_of_getElem? (i := 9) rfl))) dX0_openQuery_33 ?_
    refine gX_r38_0 hk hin2 (List.mem_cons_of_mem _ (List.mem_append_left _ (List.mem_of_getElem? (i := 10) rfl))) dX0_openQuery_36 ?_
    refine g_aload_n hk dX0_openQuery_39 rfl ?_
    refine gX_r37_2 hk hin0 (List.mem_cons_of_mem _ (List.mem_append_left _ (List.mem_of_getElem? (i := 14) rfl))) dX0_openQuery_40 ?_
    refine g_iconst (v := 1) hk dX0_openQuery_43 (by decide) ?_
    have k3255 : (1 : Int32).toInt = 1 := rfl
    refine g_callV (n := 1) hk (k194_X7_valueOf l D zt q d I3254 A3254 1 hV3254) (SP.same _) (fun _ h => h) (gi_V (List.mem_cons_of_mem _ (List.mem_append_left _ (List.mem_of_getElem? (i := 15) rfl))) (List.mem_cons_of_mem _ (List.mem_append_left _ (List.mem_of_getElem? (i := 16) rfl))) (List.mem_cons_of_mem _ (List.mem_append_left _ (List.mem_of_getElem? (i := 17) rfl))) (List.mem_cons_of_mem _ (List.mem_append_left _ (List.mem_of_getElem? (i := 18) rfl))) (gi_sub (fun w h => (List.mem_cons_of_mem _ (List.mem_append_right _ (List.mem_append_right _ (List.mem_append_right _ (List.mem_append_right _ (List.mem_append_right _ (List.mem_append_right _ (List.mem_append_left _ h))))))))) zg_k174_X7_valueOf)) rfl rfl rfl (by decide +kernel) ⟨Nat.le_of_ble_eq_true rfl, Nat.le_of_ble_eq_true rfl⟩ 18 rfl rfl rfl rfl (Nat.le_of_ble_eq_true rfl) ⟨Nat.le_of_ble_eq_true rfl, Nat.le_of_ble_eq_true rfl⟩ dX0_openQuery_44 (fun v ty' w' hp hk' => ?_)
    obtain ⟨y3256, hC, rfl, rfl⟩ := hp
    replace hF := FE.lt hF (fe_s hC)
    show GW κ 3 0 0 (wX q d I3254 A3254) 47 [(0, .ref (q 37)), (1, .int z1), (2, .int z2)] [.int y3256, .ref (q 39), .ref (q 38)]
    refine g_callV (n := 2) hk (k217_X2_bringToLevel l D zt q d I3254 A3254 y3256 hV3254) (SP.same _) (fun _ h => h) (gi_V (List.mem_cons_of_mem _ (List.mem_append_left _ (List.mem_of_getElem? (i := 19) rfl))) (List.mem_cons_of_mem _ (List.mem_append_left _ (List.mem_of_getElem? (i := 20) rfl))) (List.mem_cons_of_mem _ (List.mem_append_left _ (List.mem_of_getElem? (i := 21) rfl))) (List.mem_cons_of_mem _ (List.mem_append_left _ (List.mem_of_getElem? (i := 22) rfl))) (gi_sub (fun w h => (List.mem_cons_of_mem _ (List.mem_append_right _ (List.mem_append_right _ (List.mem_append_right _ (List.mem_append_right _ (List.mem_append_right _ (List.mem_append_right _ (List.mem_append_right _ (List.mem_append_left _ h)))))))))) zg_k217_X2_bringToLevel)) rfl rfl rfl (by decide +kernel) ⟨Nat.le_of_ble_eq_true rfl, Nat.le_of_ble_eq_true rfl⟩ 38 rfl rfl rfl rfl (Nat.le_of_ble_eq_true rfl) ⟨Nat.le_of_ble_eq_true rfl, Nat.le_of_ble_eq_true rfl⟩ dX0_openQuery_47 (fun v ty' w' hp hk' => ?_)
    obtain ⟨I3258, A3258, hI3258, hA3258, hV3258, hC, rfl, rfl⟩ := hp
    replace hF := FE.bdX hF hC
    show GW κ 3 0 0 (wX q d I3258 A3258) 50 [(0, .ref (q 37)), (1, .int z1), (2, .int z2)] []
    exact g_vret hk hR ⟨I3258, A3258, (show Md [28, 30, 31, 32] I I3258 from (Md.tr (Md.tr (Md.tr Md.rf hI3252 rfl) hI3254 rfl) hI3258 rfl)), (show Md [21] A A3258 from (Md.tr (Md.tr (Md.tr Md.rf hA3252 rfl) hA3254 rfl) hA3258 rfl)), hV3258, hF, rfl, rfl⟩ dX0_openQuery_50
noncomputable def bX6_copyWindow_2_3 (z2 : Int32) (z1 : Int32) : (Int32 → (Nat → Int32) → (Nat → Nat → Int32) → (Int32 × (Nat → Int32) × (Nat → Nat → Int32))) → Int32 → (Nat → Int32) → (Nat → Nat → Int32) → (Int32 × (Nat → Int32) × (Nat → Nat → Int32)) := fun kk3298 x3261 I3266 A3266 => if z2.toInt ≤ x3261.toInt then (0, I3266, A3266) else if 16 ≤ x3261.toInt then (0, I3266, A3266) else f_lt (z1 + x3261) fun y3304 => f_lt (fX6_valueAt I3266 A3266 y3304) fun y3305 => f_lt (x3261 + Int32.ofInt 1) fun y3306 => kk3298 y3306 I3266 (up3 A3266 22 (x3261.toNatClampNeg) y3305)
noncomputable def fX6_copyWindow_2 (I : Nat → Int32) (A : Nat → Nat → Int32) (z1 : Int32) (z2 : Int32) : Int32 × (Nat → Int32) × (Nat → Nat → Int32) := itr_iIA dfX (bX6_copyWindow_2_3 z2 z1) FU 0 I A
set_option maxHeartbeats 4000000 in
set_option maxRecDepth 100000 in
theorem k227_X6_copyWindow (l : Launch) (D : va_G) (zt : Nat × Nat × Nat × (Nat → Nat) × (Nat → Nat)) (q : Nat → Nat) (d : Nat → ClassId) (I : Nat → Int32) (A : Nat → Nat → Int32) (z1 : Int32) (z2 : Int32) (hIv : IvX I A) : GM l D zt (tyX d) yX6_copyWindow wz_k216_X6_copyWindow ({ frames := 1, cells := 0, slots := 0, locals := 21 } : Room) [.ref (q 13), .int z1, .int z2, .ref (q 40)] (wX q d I A) (fun v _ w' => ∃ (I' : Nat → Int32) (A' : Nat → Nat → Int32), Md [] I I' ∧ Md [22] A A' ∧ IvX I' A' ∧ FE (fX6_copyWindow_2 I A z1 z2) (0, I', A') ∧ v = none ∧ w' = wX q d I' A') 0 0 := by
  refine GM.of (cc := cX6_copyWindow) (maxL := 5) (ret := none) (own := RX6) (lv := [(0, .ref (q 13)), (1, .int z1), (2, .int z2), (3, .ref (q 40))]) (by decide) rfl rfl (Nat.le_of_ble_eq_true rfl) rfl (fun κ sz hk hR hN => ?_)
  have hF : FE (fX6_copyWindow_2 I A z1 z2) (fX6_copyWindow_2 I A z1 z2) := FE.rf
  refine g_iconst (v := 0) hk dX6_copyWindow_0 (by decide) ?_
  refine g_istore (lv' := [(4, .int 0), (0, .ref (q 13)), (1, .int z1), (2, .int z2), (3, .ref (q 40))]) hk dX6_copyWindow_1 (by decide) rfl ?_
  have lp3295 : ∀ (n3296 : Nat) (x3261 : Int32) (I3266 : Nat → Int32) (A3266 : Nat → Nat → Int32), (Md [] I I3266) → (Md [22] A A3266) → (IvX I3266 A3266) → (0 ≤ x3261.toInt) → (x3261.toInt ≤ 16) → (z2.toInt + 1 - x3261.toInt < (n3296 : Int)) → (0 < n3296) → (FE (fX6_copyWindow_2 I A z1 z2) (itr_iIA dfX (bX6_copyWindow_2_3 z2 z1) n3296 x3261 I3266 A3266)) → GW κ 5 0 0 (wX q d I3266 A3266) 3 [(4, .int x3261), (0, .ref (q 13)), (1, .int z1), (2, .int z2), (3, .ref (q 40))] [] := by
    intro n3296
    induction n3296 with
    | zero =>
      intro x3261 I3266 A3266 hI3266 hA3266 hV3266 h3293 h3294 m3297 m3297z hF
      exact absurd m3297z (Nat.lt_irrefl 0)
    | succ n3296 ih3299 =>
      intro x3261 I3266 A3266 hI3266 hA3266 hV3266 h3293 h3294 m3297 m3297z hF
      replace hF := FE.itr_iIA hF
      refine g_iload hk dX6_copyWindow_3 rfl ?_
      refine g_iload_n hk dX6_copyWindow_5 rfl ?_
      have b3300l := Int32.le_toInt z2
      have b3300h := Int32.toInt_lt z2
      refine g_icmp_ge (tgt := 34) (a := x3261.toInt) (b := z2.toInt) hk dX6_copyWindow_6 (by decide) rfl rfl (fun c3301 => ?_) (fun c3301 => ?_)
      · skip
        replace hF := FE.pos hF c3301
        exact g_vret hk hR ⟨I3266, A3266, (show Md [] I I3266 from (Md.tr Md.rf hI3266 rfl)), (show Md [22] A A3266 from (Md.tr Md.rf hA3266 rfl)), hV3266, hF, rfl, rfl⟩ dX6_copyWindow_34
      · skip
        replace hF := FE.neg hF c3301
        refine g_iload hk dX6_copyWindow_9 rfl ?_
        refine g_aload_n hk dX6_copyWindow_11 rfl ?_
        refine nX_22 hk dX6_copyWindow_12 ?_
        refine g_icmp_ge (tgt := 34) (a := x3261.toInt) (b := 16) hk dX6_copyWindow_13 (by decide) rfl rfl (fun c3302 => ?_) (fun c3302 => ?_)
        · skip
          replace hF := FE.pos hF c3302
          exact g_vret hk hR ⟨I3266, A3266, (show Md [] I I3266 from (Md.tr Md.rf hI3266 rfl)), (show Md [22] A A3266 from (Md.tr Md.rf hA3266 rfl)), hV3266, hF, rfl, rfl⟩ dX6_copyWindow_34
        · skip
          replace hF := FE.neg hF c3302
          refine g_aload_n hk dX6_copyWindow_16 rfl ?_
          refine g_iload hk dX6_copyWindow_17 rfl ?_
          refine g_aload_n hk dX6_copyWindow_19 rfl ?_
          refine g_iload_n hk dX6_copyWindow_20 rfl ?_
          refine g_iload hk dX6_copyWindow_21 rfl ?_
          have b3303l := Int32.le_toInt z1
          have b3303h := Int32.toInt_lt z1
          refine g_iadd hk dX6_copyWindow_23 ?_
          refine g_topi (fun y3304 ey3304 => ?_)
          replace hF := FE.lt hF ey3304
          refine g_callV (n := 1) hk (k179_X6_valueAt l D zt q d I3266 A3266 y3304 hV3266) (SP.same _) (fun _ h => h) (gi_V (List.mem_cons_of_mem _ (List.mem_append_left _ (List.mem_of_getElem? (i := 0) rfl))) (List.mem_cons_of_mem _ (List.mem_append_left _ (List.mem_of_getElem? (i := 1) rfl))) (List.mem_cons_of_mem _ (List.mem_append_left _ (List.mem_of_getElem? (i := 2) rfl))) (List.mem_cons_of_mem _ (List.mem_append_left _ (List.mem_of_getElem? (i := 3) rfl))) (gi_sub (fun w h => (List.mem_cons_of_mem _ (List.mem_append_right _ (List.mem_append_left _ h)))) zg_k179_X6_valueAt)) rfl rfl rfl (by decide +kernel) ⟨Nat.le_of_ble_eq_true rfl, Nat.le_of_ble_eq_true rfl⟩ 13 rfl rfl rfl rfl (Nat.le_of_ble_eq_true rfl) ⟨Nat.le_of_ble_eq_true rfl, Nat.le_of_ble_eq_true rfl⟩ dX6_copyWindow_24 (fun v ty' w' hp hk' => ?_)
          obtain ⟨y3305, hC, rfl, rfl⟩ := hp
          replace hF := FE.lt hF (fe_s hC)
          show GW κ 5 0 0 (wX q d I3266 A3266) 27 [(4, .int x3261), (0, .ref (q 13)), (1, .int z1), (2, .int z2), (3, .ref (q 40))] [.int y3305, .int x3261, .ref (q 40)]
          refine sX_22 (j := x3261.toNatClampNeg) hk (vp_in_iff.mpr ⟨by omega, by omega⟩) rfl dX6_copyWindow_27 ?_
          obtain ⟨y3306, ey3306⟩ : ∃ y : Int32, y = x3261 + Int32.ofInt 1 := ⟨_, rfl⟩
          replace hF := FE.lt hF ey3306
          have hy3306 : y3306.toInt = x3261.toInt + 1 := i32_add ey3306 rfl (by decide) (by omega) (by omega)
          refine g_iinc (v := y3306) (lv' := [(4, .int y3306), (0, .ref (q 13)), (1, .int z1), (2, .int z2), (3, .ref (q 40))]) hk 0 dX6_copyWindow_28 rfl ey3306.symm (by decide) rfl ?_
          refine g_goto (tgt := 3) hk dX6_copyWindow_31 (by decide) ?_
          exact g_lv (List.forall_mem_cons.mpr ⟨List.mem_of_getElem? (i := 0) rfl, (List.forall_mem_cons.mpr ⟨List.mem_of_getElem? (i := 1) rfl, (List.forall_mem_cons.mpr ⟨List.mem_of_getElem? (i := 2) rfl, (List.forall_mem_cons.mpr ⟨List.mem_of_getElem? (i := 3) rfl, (List.forall_mem_cons.mpr ⟨List.mem_of_getElem? (i := 4) rfl, (fun _ h => absurd h List.not_mem_nil)⟩)⟩)⟩)⟩)⟩) (ih3299 y3306 I3266 (up3 A3266 22 (x3261.toNatClampNeg) y3305) (show Md [] I I3266 from Md.tr hI3266 (show Md [] I3266 I3266 from Md.rf) rfl) (show Md [22] A (up3 A3266 22 (x3261.toNatClampNeg) y3305) from Md.tr hA3266 (show Md [22] A3266 (up3 A3266 22 (x3261.toNatClampNeg) y3305) from (Md.up3 Md.rf rfl)) rfl) ⟨(IvX_f0 (I := I3266) (A := A3266) hV3266), (IvX_f18 (I := I3266) (A := A3266) hV3266), (IvX_f30 (I := I3266) (A := A3266) hV3266), (IvX_f31 (I := I3266) (A := A3266) hV3266), (IvX_a4 (I := I3266) (A := A3266) hV3266), (IvX_a9 (I := I3266) (A := A3266) hV3266), trivial⟩ (by omega) (by omega) (by omega) (by omega) hF)
  have k3308 : (0 : Int32).toInt = 0 := rfl
  have b3309 := Int32.le_toInt z2
  have b3310 := Int32.toInt_lt z2
  have n3307a : z2.toInt + 1 - 0 < (FU : Int) := by have := FU_eq; omega
  have n3307b : 0 < FU := by have := FU_eq; omega
  exact lp3295 FU 0 I A Md.rf Md.rf hIv (by omega) (by omega) n3307a n3307b hF
noncomputable def bX2_spreadAll_2_52 (I : Nat → Int32) (y3631 : Int32) (x3322 : Int32) : (Int32 → (Nat → Int32) → (Nat → Nat → Int32) → (Int32 × (Nat → Int32) × (Nat → Nat → Int32))) → Int32 → (Nat → Int32) → (Nat → Nat → Int32) → (Int32 × (Nat → Int32) × (Nat → Nat → Int32)) := fun kk3686 x3632 I3638 A3638 => if (I 30).toInt ≤ x3632.toInt then (0, I3638, A3638) else if y3631.toInt ≠ 0 then f_lt ((A3638 22 x3632.toNatClampNeg) - x3322) fun y3692 => f_lt ((1000 : Int32) * y3692) fun y3694 => f_lt (y3694 / y3631) fun y3695 => f_lt (x3632 + Int32.ofInt 1) fun y3696 => kk3686 y3696 I3638 (up3 A3638 22 (x3632.toNatClampNeg) y3695) else f_lt (x3632 + Int32.ofInt 1) fun y3698 => kk3686 y3698 I3638 (up3 A3638 22 (x3632.toNatClampNeg) 0)
noncomputable def bX2_spreadAll_2_11 (I : Nat → Int32) (A : Nat → Nat → Int32) : (Int32 → Int32 → Int32 → (Int32 × (Nat → Int32) × (Nat → Nat → Int32))) → Int32 → Int32 → Int32 → (Int32 × (Nat → Int32) × (Nat → Nat → Int32)) := fun kk3625 x3320 x3321 x3322 => if (I 30).toInt ≤ x3320.toInt then f_lt (x3321 - x3322) fun y3631 => itr_iIA dfX (bX2_spreadAll_2_52 I y3631 x3322) FU 0 I A else f_lt (if (A 22 x3320.toNatClampNeg) < x3322 then (A 22 x3320.toNatClampNeg) else x3322) fun y3703 => f_lt (if x3321 < (A 22 x3320.toNatClampNeg) then (A 22 x3320.toNatClampNeg) else x3321) fun y3705 => f_lt (x3320 + Int32.ofInt 1) fun y3706 => kk3625 y3706 y3705 y3703
noncomputable def fX2_spreadAll_2 (I : Nat → Int32) (A : Nat → Nat → Int32) : Int32 × (Nat → Int32) × (Nat → Nat → Int32) := itr_iii dfX (bX2_spreadAll_2_11 I A) FU 1 (A 22 0) (A 22 0)
set_option maxHeartbeats 4000000 in
set_option maxRecDepth 100000 in
theorem k229_X2_spreadAll (l : Launch) (D : va_G) (zt : Nat × Nat × Nat × (Nat → Nat) × (Nat → Nat)) (q : Nat → Nat) (d : Nat → ClassId) (I : Nat → Int32) (A : Nat → Nat → Int32) (hIv : IvX I A) : GM l D zt (tyX d) yX2_spreadAll wz_k218_X2_spreadAll ({ frames := 1, cells := 0, slots := 0, locals := 13 } : Room) [.ref (q 38), .ref (q 40)] (wX q d I A) (fun v _ w' => ∃ (I' : Nat → Int32) (A' : Nat → Nat → Int32), Md [] I I' ∧ Md [22] A A' ∧ IvX I' A' ∧ FE (fX2_spreadAll_2 I A) (0, I', A') ∧ v = none ∧ w' = wX q d I' A') 0 0 := by
  refine GM.of (cc := cX2_spreadAll) (maxL := 6) (ret := none) (own := RX2) (lv := [(0, .ref (q 38)), (1, .ref (q 40))]) (by decide) rfl rfl (Nat.le_of_ble_eq_true rfl) rfl (fun κ sz hk hR hN => ?_)
  have hin2 : ∀ w ∈ u_ws RX2 TX2 10, w ∈ wz_k218_X2_spreadAll := fun w h => (List.mem_cons_of_mem _ (List.mem_append_right _ (List.mem_append_left _ h)))
  have hF : FE (fX2_spreadAll_2 I A) (fX2_spreadAll_2 I A) := FE.rf
  refine g_aload_n hk dX2_spreadAll_0 rfl ?_
  refine g_iconst (v := 0) hk dX2_spreadAll_1 (by decide) ?_
  refine lX_22 (v := (A 22 0)) hk (vp_in_iff.mpr ⟨by decide, by decide⟩) rfl dX2_spreadAll_2 ?_
  refine g_istore_n (lv' := [(2, .int (A 22 0)), (0, .ref (q 38)), (1, .ref (q 40))]) hk dX2_spreadAll_3 (by decide) rfl ?_
  refine g_aload_n hk dX2_spreadAll_4 rfl ?_
  refine g_iconst (v := 0) hk dX2_spreadAll_5 (by decide) ?_
  refine lX_22 (v := (A 22 0)) hk (vp_in_iff.mpr ⟨by decide, by decide⟩) rfl dX2_spreadAll_6 ?_
  refine g_istore_n (lv' := [(3, .int (A 22 0)), (2, .int (A 22 0)), (0, .ref (q 38)), (1, .ref (q 40))]) hk dX2_spreadAll_7 (by decide) rfl ?_
  refine g_iconst (v := 1) hk dX2_spreadAll_8 (by decide) ?_
  refine g_istore (lv' := [(4, .int 1), (3, .int (A 22 0)), (2, .int (A 22 0)), (0, .ref (q 38)), (1, .ref (q 40))]) hk dX2_spreadAll_9 (by decide) rfl ?_
  have lp3622 : ∀ (n3623 : Nat) (x3320 : Int32) (x3321 : Int32) (x3322 : Int32), (1 ≤ x3320.toInt) → (x3320.toInt ≤ 16) → (17 - x3320.toInt < (n3623 : Int)) → (0 < n3623) → (FE (fX2_spreadAll_2 I A) (itr_iii dfX (bX2_spreadAll_2_11 I A) n3623 x3320 x3321 x3322)) → GW κ 6 0 0 (wX q d I A) 11 [(4, .int x3320), (3, .int x3321), (2, .int x3322), (0, .ref (q 38)), (1, .ref (q 40))] [] := by
    intro n3623
    induction n3623 with
    | zero =>
      intro x3320 x3321 x3322 h3620 h3621 m3624 m3624z hF
      exact absurd m3624z (Nat.lt_irrefl 0)
    | succ n3623 ih3626 =>
      intro x3320 x3321 x3322 h3620 h3621 m3624 m3624z hF
      replace hF := FE.itr_iii hF
      refine g_iload hk dX2_spreadAll_11 rfl ?_
      refine g_aload_n hk dX2_spreadAll_13 rfl ?_
      refine gX_i30 (v := (I 30)) hk hin2 (List.mem_cons_of_mem _ (List.mem_append_left _ (List.mem_of_getElem? (i := 0) rfl))) dX2_spreadAll_14 rfl ?_
      have f3627 := IvX_f30 hIv
      refine g_icmp_ge (tgt := 44) (a := x3320.toInt) (b := (I 30).toInt) hk dX2_spreadAll_17 (by decide) rfl rfl (fun c3628 => ?_) (fun c3628 => ?_)
      · skip
        replace hF := FE.pos hF c3628
        refine g_iload_n hk dX2_spreadAll_44 rfl ?_
        refine g_iload_n hk dX2_spreadAll_45 rfl ?_
        have b3629l := Int32.le_toInt x3321
        have b3629h := Int32.toInt_lt x3321
        have b3630l := Int32.le_toInt x3322
        have b3630h := Int32.toInt_lt x3322
        refine g_isub hk dX2_spreadAll_46 ?_
        refine g_topi (fun y3631 ey3631 => ?_)
        replace hF := FE.lt hF ey3631
        have hy3631 := i32_sub0 ey3631
        refine g_istore (lv' := [(4, .int y3631), (3, .int x3321), (2, .int x3322), (0, .ref (q 38)), (1, .ref (q 40))]) hk dX2_spreadAll_47 (by decide) rfl ?_
        refine g_iconst (v := 0) hk dX2_spreadAll_49 (by decide) ?_
        refine g_istore (lv' := [(5, .int 0), (4, .int y3631), (3, .int x3321), (2, .int x3322), (0, .ref (q 38)), (1, .ref (q 40))]) hk dX2_spreadAll_50 (by decide) rfl ?_
        have lp3683 : ∀ (n3684 : Nat) (x3632 : Int32) (I3638 : Nat → Int32) (A3638 : Nat → Nat → Int32), (Md [] I I3638) → (Md [22] A A3638) → (IvX I3638 A3638) → (0 ≤ x3632.toInt) → (x3632.toInt ≤ 16) → (17 - x3632.toInt < (n3684 : Int)) → (0 < n3684) → (FE (fX2_spreadAll_2 I A) (itr_iIA dfX (bX2_spreadAll_2_52 I y3631 x3322) n3684 x3632 I3638 A3638)) → GW κ 6 0 0 (wX q d I3638 A3638) 52 [(5, .int x3632), (4, .int y3631), (3, .int x3321), (2, .int x3322), (0, .ref (q 38)), (1, .ref (q 40))] [] := by
          intro n3684
          induction n3684 with
          | zero =>
            intro x3632 I3638 A3638 hI3638 hA3638 hV3638 h3681 h3682 m3685 m3685z hF
            exact absurd m3685z (Nat.lt_irrefl 0)
          | succ n3684 ih3687 =>
            intro x3632 I3638 A3638 hI3638 hA3638 hV3638 h3681 h3682 m3685 m3685z hF
            replace hF := FE.itr_iIA hF
            refine g_iload hk dX2_spreadAll_52 rfl ?_
            refine g_aload_n hk dX2_spreadAll_54 rfl ?_
            refine gX_i30 (v := (I 30)) hk hin2 (List.mem_cons_of_mem _ (List.mem_append_left _ (List.mem_of_getElem? (i := 0) rfl))) dX2_spreadAll_55 (hI3638 30 rfl) ?_
            refine g_icmp_ge (tgt := 93) (a := x3632.toInt) (b := (I 30).toInt) hk dX2_spreadAll_58 (by decide) rfl rfl (fun c3688 => ?_) (fun c3688 => ?_)
            · skip
              replace hF := FE.pos hF c3688
              exact g_vret hk hR ⟨I3638, A3638, (show Md [] I I3638 from (Md.tr Md.rf hI3638 rfl)), (show Md [22] A A3638 from (Md.tr Md.rf hA3638 rfl)), hV3638, hF, rfl, rfl⟩ dX2_spreadAll_93
            · skip
              replace hF := FE.neg hF c3688
              refine g_aload_n hk dX2_spreadAll_61 rfl ?_
              refine g_iload hk dX2_spreadAll_62 rfl ?_
              refine g_iload hk dX2_spreadAll_64 rfl ?_
              have b3689l := Int32.le_toInt y3631
              have b3689h := Int32.toInt_lt y3631
              refine g_if_ne (tgt := 73) (a := y3631.toInt) hk dX2_spreadAll_66 (by decide) rfl (fun c3690 => ?_) (fun c3690 => ?_)
              · skip
                replace hF := FE.pos hF c3690
                refine g_sipush (v := 1000) hk dX2_spreadAll_73 (by decide) ?_
                refine g_aload_n hk dX2_spreadAll_76 rfl ?_
                refine g_iload hk dX2_spreadAll_77 rfl ?_
                refine lX_22 (v := (A3638 22 x3632.toNatClampNeg)) hk (vp_in_iff.mpr ⟨by omega, by omega⟩) rfl dX2_spreadAll_79 ?_
                refine g_iload_n hk dX2_spreadAll_80 rfl ?_
                have b3691l := Int32.le_toInt (A3638 22 x3632.toNatClampNeg)
                have b3691h := Int32.toInt_lt (A3638 22 x3632.toNatClampNeg)
                refine g_isub hk dX2_spreadAll_81 ?_
                refine g_topi (fun y3692 ey3692 => ?_)
                replace hF := FE.lt hF ey3692
                have hy3692 := i32_sub0 ey3692
                have b3693l := Int32.le_toInt y3692
                have b3693h := Int32.toInt_lt y3692
                refine g_imul hk dX2_spreadAll_82 ?_
                refine g_topi (fun y3694 ey3694 => ?_)
                replace hF := FE.lt hF ey3694
                refine g_iload hk dX2_spreadAll_83 rfl ?_
                refine g_idiv hk dX2_spreadAll_85 (i32_ne0 (by omega)) ?_
                refine g_topi (fun y3695 ey3695 => ?_)
                replace hF := FE.lt hF ey3695
                refine sX_22 (j := x3632.toNatClampNeg) hk (vp_in_iff.mpr ⟨by omega, by omega⟩) rfl dX2_spreadAll_86 ?_
                obtain ⟨y3696, ey3696⟩ : ∃ y : Int32, y = x3632 + Int32.ofInt 1 := ⟨_, rfl⟩
                replace hF := FE.lt hF ey3696
                have hy3696 : y3696.toInt = x3632.toInt + 1 := i32_add ey3696 rfl (by decide) (by omega) (by omega)
                refine g_iinc (v := y3696) (lv' := [(5, .int y3696), (4, .int y3631), (3, .int x3321), (2, .int x3322), (0, .ref (q 38)), (1, .ref (q 40))]) hk 0 dX2_spreadAll_87 rfl ey3696.symm (by decide) rfl ?_
                refine g_goto (tgt := 52) hk dX2_spreadAll_90 (by decide) ?_
                exact g_lv (List.forall_mem_cons.mpr ⟨List.mem_of_getElem? (i := 0) rfl, (List.forall_mem_cons.mpr ⟨List.mem_of_getElem? (i := 1) rfl, (List.forall_mem_cons.mpr ⟨List.mem_of_getElem? (i := 2) rfl, (List.forall_mem_cons.mpr ⟨List.mem_of_getElem? (i := 3) rfl, (List.forall_mem_cons.mpr ⟨List.mem_of_getElem? (i := 4) rfl, (List.forall_mem_cons.mpr ⟨List.mem_of_getElem? (i := 5) rfl, (fun _ h => absurd h List.not_mem_nil)⟩)⟩)⟩)⟩)⟩)⟩) (ih3687 y3696 I3638 (up3 A3638 22 (x3632.toNatClampNeg) y3695) (show Md [] I I3638 from Md.tr hI3638 (show Md [] I3638 I3638 from Md.rf) rfl) (show Md [22] A (up3 A3638 22 (x3632.toNatClampNeg) y3695) from Md.tr hA3638 (show Md [22] A3638 (up3 A3638 22 (x3632.toNatClampNeg) y3695) from (Md.up3 Md.rf rfl)) rfl) ⟨(IvX_f0 (I := I3638) (A := A3638) hV3638), (IvX_f18 (I := I3638) (A := A3638) hV3638), (IvX_f30 (I := I3638) (A := A3638) hV3638), (IvX_f31 (I := I3638) (A := A3638) hV3638), (IvX_a4 (I := I3638) (A := A3638) hV3638), (IvX_a9 (I := I3638) (A := A3638) hV3638), trivial⟩ (by omega) (by omega) (by omega) (by omega) hF)
              · skip
                replace hF := FE.neg hF c3690
                refine g_iconst (v := 0) hk dX2_spreadAll_69 (by decide) ?_
                refine g_goto (tgt := 86) hk dX2_spreadAll_70 (by decide) ?_
                have k3697 : (0 : Int32).toInt = 0 := rfl
                refine sX_22 (j := x3632.toNatClampNeg) hk (vp_in_iff.mpr ⟨by omega, by omega⟩) rfl dX2_spreadAll_86 ?_
                obtain ⟨y3698, ey3698⟩ : ∃ y : Int32, y = x3632 + Int32.ofInt 1 := ⟨_, rfl⟩
                replace hF := FE.lt hF ey3698
                have hy3698 : y3698.toInt = x3632.toInt + 1 := i32_add ey3698 rfl (by decide) (by omega) (by omega)
                refine g_iinc (v := y3698) (lv' := [(5, .int y3698), (4, .int y3631), (3, .int x3321), (2, .int x3322), (0, .ref (q 38)), (1, .ref (q 40))]) hk 0 dX2_spreadAll_87 rfl ey3698.symm (by decide) rfl ?_
                refine g_goto (tgt := 52) hk dX2_spreadAll_90 (by decide) ?_
                exact g_lv (List.forall_mem_cons.mpr ⟨List.mem_of_getElem? (i := 0) rfl, (List.forall_mem_cons.mpr ⟨List.mem_of_getElem? (i := 1) rfl, (List.forall_mem_cons.mpr ⟨List.mem_of_getElem? (i := 2) rfl, (List.forall_mem_cons.mpr ⟨List.mem_of_getElem? (i := 3) rfl, (List.forall_mem_cons.mpr ⟨List.mem_of_getElem? (i := 4) rfl, (List.forall_mem_cons.mpr ⟨List.mem_of_getElem? (i := 5) rfl, (fun _ h => absurd h List.not_mem_nil)⟩)⟩)⟩)⟩)⟩)⟩) (ih3687 y3698 I3638 (up3 A3638 22 (x3632.toNatClampNeg) 0) (show Md [] I I3638 from Md.tr hI3638 (show Md [] I3638 I3638 from Md.rf) rfl) (show Md [22] A (up3 A3638 22 (x3632.toNatClampNeg) 0) from Md.tr hA3638 (show Md [22] A3638 (up3 A3638 22 (x3632.toNatClampNeg) 0) from (Md.up3 Md.rf rfl)) rfl) ⟨(IvX_f0 (I := I3638) (A := A3638) hV3638), (IvX_f18 (I := I3638) (A := A3638) hV3638), (IvX_f30 (I := I3638) (A := A3638) hV3638), (IvX_f31 (I := I3638) (A := A3638) hV3638), (IvX_a4 (I := I3638) (A := A3638) hV3638), (IvX_a9 (I := I3638) (A := A3638) hV3638), trivial⟩ (by omega) (by omega) (by omega) (by omega) hF)
        have k3700 : (0 : Int32).toInt = 0 := rfl
        have n3699a : 17 - 0 < (FU : Int) := by have := FU_eq; omega
        have n3699b : 0 < FU := by have := FU_eq; omega
        exact lp3683 FU 0 I A Md.rf Md.rf hIv (by omega) (by omega) n3699a n3699b hF
      · skip
        replace hF := FE.neg hF c3628
        refine g_iload_n hk dX2_spreadAll_20 rfl ?_
        refine g_aload_n hk dX2_spreadAll_21 rfl ?_
        refine g_iload hk dX2_spreadAll_22 rfl ?_
        refine lX_22 (v := (A 22 x3320.toNatClampNeg)) hk (vp_in_iff.mpr ⟨by omega, by omega⟩) rfl dX2_spreadAll_24 ?_
        have b3701l := Int32.le_toInt (A 22 x3320.toNatClampNeg)
        have b3701h := Int32.toInt_lt (A 22 x3320.toNatClampNeg)
        have b3702l := Int32.le_toInt x3322
        have b3702h := Int32.toInt_lt x3322
        refine g_mmin hk (List.mem_cons_of_mem _ (List.mem_append_left _ (List.mem_of_getElem? (i := 1) rfl))) (List.mem_cons_of_mem _ (List.mem_append_left _ (List.mem_of_getElem? (i := 2) rfl))) (List.mem_cons_of_mem _ (List.mem_append_left _ (List.mem_of_getElem? (i := 3) rfl))) (List.mem_cons_of_mem _ (List.mem_append_left _ (List.mem_of_getElem? (i := 4) rfl))) (Nat.le_of_ble_eq_true rfl) (Nat.le_of_ble_eq_true rfl) (Nat.le_of_ble_eq_true rfl) (Nat.le_of_ble_eq_true rfl) dX2_spreadAll_25 ?_
        refine g_topi (fun y3703 ey3703 => ?_)
        replace hF := FE.lt hF ey3703
        have hy3703 := i32_min ey3703
        refine g_istore_n (lv' := [(2, .int y3703), (4, .int x3320), (3, .int x3321), (0, .ref (q 38)), (1, .ref (q 40))]) hk dX2_spreadAll_28 (by decide) rfl ?_
        refine g_iload_n hk dX2_spreadAll_29 rfl ?_
        refine g_aload_n hk dX2_spreadAll_30 rfl ?_
        refine g_iload hk dX2_spreadAll_31 rfl ?_
        refine lX_22 (v := (A 22 x3320.toNatClampNeg)) hk (vp_in_iff.mpr ⟨by omega, by omega⟩) rfl dX2_spreadAll_33 ?_
        have b3704l := Int32.le_toInt x3321
        have b3704h := Int32.toInt_lt x3321
        refine g_mmax hk (List.mem_cons_of_mem _ (List.mem_append_left _ (List.mem_of_getElem? (i := 5) rfl))) (List.mem_cons_of_mem _ (List.mem_append_left _ (List.mem_of_getElem? (i := 6) rfl))) (List.mem_cons_of_mem _ (List.mem_append_left _ (List.mem_of_getElem? (i := 3) rfl))) (List.mem_cons_of_mem _ (List.mem_append_left _ (List.mem_of_getElem? (i := 7) rfl))) (Nat.le_of_ble_eq_true rfl) (Nat.le_of_ble_eq_true rfl) (Nat.le_of_ble_eq_true rfl) (Nat.le_of_ble_eq_true rfl) dX2_spreadAll_34 ?_
        refine g_topi (fun y3705 ey3705 => ?_)
        replace hF := FE.lt hF ey3705
        have hy3705 := i32_max ey3705
        refine g_istore_n (lv' := [(3, .int y3705), (2, .int y3703), (4, .int x3320), (0, .ref (q 38)), (1, .ref (q 40))]) hk dX2_spreadAll_37 (by decide) rfl ?_
        obtain ⟨y3706, ey3706⟩ : ∃ y : Int32, y = x3320 + Int32.ofInt 1 := ⟨_, rfl⟩
        replace hF := FE.lt hF ey3706
        have hy3706 : y3706.toInt = x3320.toInt + 1 := i32_add ey3706 rfl (by decide) (by omega) (by omega)
        refine g_iinc (v := y3706) (lv' := [(4, .int y3706), (3, .int y3705), (2, .int y3703), (0, .ref (q 38)), (1, .ref (q 40))]) hk 2 dX2_spreadAll_38 rfl ey3706.symm (by decide) rfl ?_
        refine g_goto (tgt := 11) hk dX2_spreadAll_41 (by decide) ?_
        exact g_lv (List.forall_mem_cons.mpr ⟨List.mem_of_getElem? (i := 0) rfl, (List.forall_mem_cons.mpr ⟨List.mem_of_getElem? (i := 1) rfl, (List.forall_mem_cons.mpr ⟨List.mem_of_getElem? (i := 2) rfl, (List.forall_mem_cons.mpr ⟨List.mem_of_getElem? (i := 3) rfl, (List.forall_mem_cons.mpr ⟨List.mem_of_getElem? (i := 4) rfl, (fun _ h => absurd h List.not_mem_nil)⟩)⟩)⟩)⟩)⟩) (ih3626 y3706 y3705 y3703 (by omega) (by omega) (by omega) (by omega) hF)
  have k3708 : (1 : Int32).toInt = 1 := rfl
  have b3709l := Int32.le_toInt (A 22 0)
  have b3709h := Int32.toInt_lt (A 22 0)
  have n3707a : 17 - 1 < (FU : Int) := by have := FU_eq; omega
  have n3707b : 0 < FU := by have := FU_eq; omega
  exact lp3622 FU 1 (A 22 0) (A 22 0) (by omega) (by omega) n3707a n3707b hF
noncomputable def bX2_lessenAll_2_2 (I : Nat → Int32) (z2 : Int32) : (Int32 → (Nat → Int32) → (Nat → Nat → Int32) → (Int32 × (Nat → Int32) × (Nat → Nat → Int32))) → Int32 → (Nat → Int32) → (Nat → Nat → Int32) → (Int32 × (Nat → Int32) × (Nat → Nat → Int32)) := fun kk3745 x3712 I3716 A3716 => if (I 30).toInt ≤ x3712.toInt then (0, I3716, A3716) else f_lt ((A3716 22 x3712.toNatClampNeg) - z2) fun y3751 => f_lt (x3712 + Int32.ofInt 1) fun y3752 => kk3745 y3752 I3716 (up3 A3716 22 (x3712.toNatClampNeg) y3751)
noncomputable def fX2_lessenAll_2 (I : Nat → Int32) (A : Nat → Nat → Int32) (z2 : Int32) : Int32 × (Nat → Int32) × (Nat → Nat → Int32) := itr_iIA dfX (bX2_lessenAll_2_2 I z2) FU 0 I A
set_option maxHeartbeats 4000000 in
set_option maxRecDepth 100000 in
theorem k230_X2_lessenAll (l : Launch) (D : va_G) (zt : Nat × Nat × Nat × (Nat → Nat) × (Nat → Nat)) (q : Nat → Nat) (d : Nat → ClassId) (I : Nat → Int32) (A : Nat → Nat → Int32) (z2 : Int32) (hIv : IvX I A) : GM l D zt (tyX d) yX2_lessenAll wz_k219_X2_lessenAll ({ frames := 0, cells := 0, slots := 0, locals := 0 } : Room) [.ref (q 38), .ref (q 40), .int z2] (wX q d I A) (fun v _ w' => ∃ (I' : Nat → Int32) (A' : Nat → Nat → Int32), Md [] I I' ∧ Md [22] A A' ∧ IvX I' A' ∧ FE (fX2_lessenAll_2 I A z2) (0, I', A') ∧ v = none ∧ w' = wX q d I' A') 0 0 := by
  refine GM.of (cc := cX2_lessenAll) (maxL := 4) (ret := none) (own := RX2) (lv := [(0, .ref (q 38)), (1, .ref (q 40)), (2, .int z2)]) (by decide) rfl rfl (Nat.le_of_ble_eq_true rfl) rfl (fun κ sz hk hR hN => ?_)
  have hin2 : ∀ w ∈ u_ws RX2 TX2 10, w ∈ wz_k219_X2_lessenAll := fun w h => (List.mem_cons_of_mem _ (List.mem_append_right _ (List.mem_append_left _ h)))
  have hF : FE (fX2_lessenAll_2 I A z2) (fX2_lessenAll_2 I A z2) := FE.rf
  refine g_iconst (v := 0) hk dX2_lessenAll_0 (by decide) ?_
  refine g_istore_n (lv' := [(3, .int 0), (0, .ref (q 38)), (1, .ref (q 40)), (2, .int z2)]) hk dX2_lessenAll_1 (by decide) rfl ?_
  have lp3742 : ∀ (n3743 : Nat) (x3712 : Int32) (I3716 : Nat → Int32) (A3716 : Nat → Nat → Int32), (Md [] I I3716) → (Md [22] A A3716) → (IvX I3716 A3716) → (0 ≤ x3712.toInt) → (x3712.toInt ≤ 16) → (17 - x3712.toInt < (n3743 : Int)) → (0 < n3743) → (FE (fX2_lessenAll_2 I A z2) (itr_iIA dfX (bX2_lessenAll_2_2 I z2) n3743 x3712 I3716 A3716)) → GW κ 4 0 0 (wX q d I3716 A3716) 2 [(3, .int x3712), (0, .ref (q 38)), (1, .ref (q 40)), (2, .int z2)] [] := by
    intro n3743
    induction n3743 with
    | zero =>
      intro x3712 I3716 A3716 hI3716 hA3716 hV3716 h3740 h3741 m3744 m3744z hF
      exact absurd m3744z (Nat.lt_irrefl 0)
    | succ n3743 ih3746 =>
      intro x3712 I3716 A3716 hI3716 hA3716 hV3716 h3740 h3741 m3744 m3744z hF
      replace hF := FE.itr_iIA hF
      refine g_iload_n hk dX2_lessenAll_2 rfl ?_
      refine g_aload_n hk dX2_lessenAll_3 rfl ?_
      refine gX_i30 (v := (I 30)) hk hin2 (List.mem_cons_of_mem _ (List.mem_append_left _ (List.mem_of_getElem? (i := 0) rfl))) dX2_lessenAll_4 (hI3716 30 rfl) ?_
      have f3747 := IvX_f30 hIv
      refine g_icmp_ge (tgt := 29) (a := x3712.toInt) (b := (I 30).toInt) hk dX2_lessenAll_7 (by decide) rfl rfl (fun c3748 => ?_) (fun c3748 => ?_)
      · skip
        replace hF := FE.pos hF c3748
        exact g_vret hk hR ⟨I3716, A3716, (show Md [] I I3716 from (Md.tr Md.rf hI3716 rfl)), (show Md [22] A A3716 from (Md.tr Md.rf hA3716 rfl)), hV3716, hF, rfl, rfl⟩ dX2_lessenAll_29
      · skip
        replace hF := FE.neg hF c3748
        refine g_iload_n hk dX2_lessenAll_10 rfl ?_
        refine g_aload_n hk dX2_lessenAll_11 rfl ?_
        refine nX_22 hk dX2_lessenAll_12 ?_
        refine g_icmp_ge (tgt := 29) (a := x3712.toInt) (b := 16) hk dX2_lessenAll_13 (by decide) rfl rfl (fun z9 => absurd z9 (show ¬ (16 ≤ x3712.toInt) from by omega)) (fun _ => ?_)
        refine g_aload_n hk dX2_lessenAll_16 rfl ?_
        refine g_iload_n hk dX2_lessenAll_17 rfl ?_
        refine g_dup2 hk dX2_lessenAll_18 rfl rfl ?_
        refine lX_22 (v := (A3716 22 x3712.toNatClampNeg)) hk (vp_in_iff.mpr ⟨by omega, by omega⟩) rfl dX2_lessenAll_19 ?_
        refine g_iload_n hk dX2_lessenAll_20 rfl ?_
        have b3749l := Int32.le_toInt (A3716 22 x3712.toNatClampNeg)
        have b3749h := Int32.toInt_lt (A3716 22 x3712.toNatClampNeg)
        have b3750l := Int32.le_toInt z2
        have b3750h := Int32.toInt_lt z2
        refine g_isub hk dX2_lessenAll_21 ?_
        refine g_topi (fun y3751 ey3751 => ?_)
        replace hF := FE.lt hF ey3751
        have hy3751 := i32_sub0 ey3751
        refine sX_22 (j := x3712.toNatClampNeg) hk (vp_in_iff.mpr ⟨by omega, by omega⟩) rfl dX2_lessenAll_22 ?_
        obtain ⟨y3752, ey3752⟩ : ∃ y : Int32, y = x3712 + Int32.ofInt 1 := ⟨_, rfl⟩
        replace hF := FE.lt hF ey3752
        have hy3752 : y3752.toInt = x3712.toInt + 1 := i32_add ey3752 rfl (by decide) (by omega) (by omega)
        refine g_iinc (v := y3752) (lv' := [(3, .int y3752), (0, .ref (q 38)), (1, .ref (q 40)), (2, .int z2)]) hk 0 dX2_lessenAll_23 rfl ey3752.symm (by decide) rfl ?_
        refine g_goto (tgt := 2) hk dX2_lessenAll_26 (by decide) ?_
        exact g_lv (List.forall_mem_cons.mpr ⟨List.mem_of_getElem? (i := 0) rfl, (List.forall_mem_cons.mpr ⟨List.mem_of_getElem? (i := 1) rfl, (List.forall_mem_cons.mpr ⟨List.mem_of_getElem? (i := 2) rfl, (List.forall_mem_cons.mpr ⟨List.mem_of_getElem? (i := 3) rfl, (fun _ h => absurd h List.not_mem_nil)⟩)⟩)⟩)⟩) (ih3746 y3752 I3716 (up3 A3716 22 (x3712.toNatClampNeg) y3751) (show Md [] I I3716 from Md.tr hI3716 (show Md [] I3716 I3716 from Md.rf) rfl) (show Md [22] A (up3 A3716 22 (x3712.toNatClampNeg) y3751) from Md.tr hA3716 (show Md [22] A3716 (up3 A3716 22 (x3712.toNatClampNeg) y3751) from (Md.up3 Md.rf rfl)) rfl) ⟨(IvX_f0 (I := I3716) (A := A3716) hV3716), (IvX_f18 (I := I3716) (A := A3716) hV3716), (IvX_f30 (I := I3716) (A := A3716) hV3716), (IvX_f31 (I := I3716) (A := A3716) hV3716), (IvX_a4 (I := I3716) (A := A3716) hV3716), (IvX_a9 (I := I3716) (A := A3716) hV3716), trivial⟩ (by omega) (by omega) (by omega) (by omega) hF)
  have k3754 : (0 : Int32).toInt = 0 := rfl
  have n3753a : 17 - 0 < (FU : Int) := by have := FU_eq; omega
  have n3753b : 0 < FU := by have := FU_eq; omega
  exact lp3742 FU 0 I A Md.rf Md.rf hIv (by omega) (by omega) n3753a n3753b hF
noncomputable def bX2_sumOf_2_4 (I : Nat → Int32) (A : Nat → Nat → Int32) : (Int32 → Int32 → (Int32)) → Int32 → Int32 → (Int32) := fun kk3789 x3757 x3758 => if (I 30).toInt ≤ x3757.toInt then x3758 else f_lt (x3758 + (A 22 x3757.toNatClampNeg)) fun y3796 => f_lt (x3757 + Int32.ofInt 1) fun y3797 => kk3789 y3797 y3796
noncomputable def fX2_sumOf_2 (I : Nat → Int32) (A : Nat → Nat → Int32) : Int32 := itr_ii (0 : Int32) (bX2_sumOf_2_4 I A) FU 0 0
set_option maxHeartbeats 4000000 in
set_option maxRecDepth 100000 in
theorem k231_X2_sumOf (l : Launch) (D : va_G) (zt : Nat × Nat × Nat × (Nat → Nat) × (Nat → Nat)) (q : Nat → Nat) (d : Nat → ClassId) (I : Nat → Int32) (A : Nat → Nat → Int32) (hIv : IvX I A) : GM l D zt (tyX d) yX2_sumOf wz_k220_X2_sumOf ({ frames := 0, cells := 0, slots := 0, locals := 0 } : Room) [.ref (q 38), .ref (q 40)] (wX q d I A) (fun v _ w' => ∃ y0 : Int32, FE (fX2_sumOf_2 I A) y0 ∧ v = some (.int y0) ∧ w' = wX q d I A) 0 0 := by
  refine GM.of (cc := cX2_sumOf) (maxL := 4) (ret := (some .int)) (own := RX2) (lv := [(0, .ref (q 38)), (1, .ref (q 40))]) (by decide) rfl rfl (Nat.le_of_ble_eq_true rfl) rfl (fun κ sz hk hR hN => ?_)
  have hin2 : ∀ w ∈ u_ws RX2 TX2 10, w ∈ wz_k220_X2_sumOf := fun w h => (List.mem_cons_of_mem _ (List.mem_append_right _ (List.mem_append_left _ h)))
  have hF : FE (fX2_sumOf_2 I A) (fX2_sumOf_2 I A) := FE.rf
  refine g_iconst (v := 0) hk dX2_sumOf_0 (by decide) ?_
  refine g_istore_n (lv' := [(2, .int 0), (0, .ref (q 38)), (1, .ref (q 40))]) hk dX2_sumOf_1 (by decide) rfl ?_
  refine g_iconst (v := 0) hk dX2_sumOf_2 (by decide) ?_
  refine g_istore_n (lv' := [(3, .int 0), (2, .int 0), (0, .ref (q 38)), (1, .ref (q 40))]) hk dX2_sumOf_3 (by decide) rfl ?_
  have lp3786 : ∀ (n3787 : Nat) (x3757 : Int32) (x3758 : Int32), (0 ≤ x3757.toInt) → (x3757.toInt ≤ 16) → (17 - x3757.toInt < (n3787 : Int)) → (0 < n3787) → (FE (fX2_sumOf_2 I A) (itr_ii (0 : Int32) (bX2_sumOf_2_4 I A) n3787 x3757 x3758)) → GW κ 4 0 0 (wX q d I A) 4 [(3, .int x3757), (2, .int x3758), (0, .ref (q 38)), (1, .ref (q 40))] [] := by
    intro n3787
    induction n3787 with
    | zero =>
      intro x3757 x3758 h3784 h3785 m3788 m3788z hF
      exact absurd m3788z (Nat.lt_irrefl 0)
    | succ n3787 ih3790 =>
      intro x3757 x3758 h3784 h3785 m3788 m3788z hF
      replace hF := FE.itr_ii hF
      refine g_iload_n hk dX2_sumOf_4 rfl ?_
      refine g_aload_n hk dX2_sumOf_5 rfl ?_
      refine gX_i30 (v := (I 30)) hk hin2 (List.mem_cons_of_mem _ (List.mem_append_left _ (List.mem_of_getElem? (i := 0) rfl))) dX2_sumOf_6 rfl ?_
      have f3791 := IvX_f30 hIv
      refine g_icmp_ge (tgt := 30) (a := x3757.toInt) (b := (I 30).toInt) hk dX2_sumOf_9 (by decide) rfl rfl (fun c3792 => ?_) (fun c3792 => ?_)
      · skip
        replace hF := FE.pos hF c3792
        refine g_iload_n hk dX2_sumOf_30 rfl ?_
        have b3793l := Int32.le_toInt x3758
        have b3793h := Int32.toInt_lt x3758
        exact g_iret hk hR rfl ⟨x3758, hF, rfl, rfl⟩ dX2_sumOf_31
      · skip
        replace hF := FE.neg hF c3792
        refine g_iload_n hk dX2_sumOf_12 rfl ?_
        refine g_aload_n hk dX2_sumOf_13 rfl ?_
        refine nX_22 hk dX2_sumOf_14 ?_
        refine g_icmp_ge (tgt := 30) (a := x3757.toInt) (b := 16) hk dX2_sumOf_15 (by decide) rfl rfl (fun z9 => absurd z9 (show ¬ (16 ≤ x3757.toInt) from by omega)) (fun _ => ?_)
        refine g_iload_n hk dX2_sumOf_18 rfl ?_
        refine g_aload_n hk dX2_sumOf_19 rfl ?_
        refine g_iload_n hk dX2_sumOf_20 rfl ?_
        refine lX_22 (v := (A 22 x3757.toNatClampNeg)) hk (vp_in_iff.mpr ⟨by omega, by omega⟩) rfl dX2_sumOf_21 ?_
        have b3794l := Int32.le_toInt x3758
        have b3794h := Int32.toInt_lt x3758
        have b3795l := Int32.le_toInt (A 22 x3757.toNatClampNeg)
        have b3795h := Int32.toInt_lt (A 22 x3757.toNatClampNeg)
        refine g_iadd hk dX2_sumOf_22 ?_
        refine g_topi (fun y3796 ey3796 => ?_)
        replace hF := FE.lt hF ey3796
        refine g_istore_n (lv' := [(2, .int y3796), (3, .int x3757), (0, .ref (q 38)), (1, .ref (q 40))]) hk dX2_sumOf_23 (by decide) rfl ?_
        obtain ⟨y3797, ey3797⟩ : ∃ y : Int32, y = x3757 + Int32.ofInt 1 := ⟨_, rfl⟩
        replace hF := FE.lt hF ey3797
        have hy3797 : y3797.toInt = x3757.toInt + 1 := i32_add ey3797 rfl (by decide) (by omega) (by omega)
        refine g_iinc (v := y3797) (lv' := [(3, .int y3797), (2, .int y3796), (0, .ref (q 38)), (1, .ref (q 40))]) hk 1 dX2_sumOf_24 rfl ey3797.symm (by decide) rfl ?_
        refine g_goto (tgt := 4) hk dX2_sumOf_27 (by decide) ?_
        exact g_lv (List.forall_mem_cons.mpr ⟨List.mem_of_getElem? (i := 0) rfl, (List.forall_mem_cons.mpr ⟨List.mem_of_getElem? (i := 1) rfl, (List.forall_mem_cons.mpr ⟨List.mem_of_getElem? (i := 2) rfl, (List.forall_mem_cons.mpr ⟨List.mem_of_getElem? (i := 3) rfl, (fun _ h => absurd h List.not_mem_nil)⟩)⟩)⟩)⟩) (ih3790 y3797 y3796 (by omega) (by omega) (by omega) (by omega) hF)
  have k3799 : (0 : Int32).toInt = 0 := rfl
  have n3798a : 17 - 0 < (FU : Int) := by have := FU_eq; omega
  have n3798b : 0 < FU := by have := FU_eq; omega
  exact lp3786 FU 0 0 (by omega) (by omega) n3798a n3798b hF
noncomputable def fX2_bringToLevel_2 (I : Nat → Int32) (A : Nat → Nat → Int32) (z2 : Int32) : Int32 × (Nat → Int32) × (Nat → Nat → Int32) := if z2.toInt ≠ 1 then if z2.toInt ≠ 2 then if z2.toInt ≠ 3 then (0, I, A) else f_bdX (fX2_spreadAll_2 I A) fun _ I3711 A3711 => (0, I3711, A3711) else f_bdX (fX2_lessenAll_2 I A (A 22 0)) fun _ I3756 A3756 => (0, I3756, A3756) else f_lt (fX2_sumOf_2 I A) fun y3800 => f_lt (fX_floorDiv I A y3800 (I 30)) fun y3801 => f_bdX (fX2_lessenAll_2 I A y3801) fun _ I3803 A3803 => (0, I3803, A3803)
set_option maxHeartbeats 4000000 in
set_option maxRecDepth 100000 in
theorem k228_X2_bringToLevel (l : Launch) (D : va_G) (zt : Nat × Nat × Nat × (Nat → Nat) × (Nat → Nat)) (q : Nat → Nat) (d : Nat → ClassId) (I : Nat → Int32) (A : Nat → Nat → Int32) (z2 : Int32) (hIv : IvX I A) : GM l D zt (tyX d) yX2_bringToLevel wz_k217_X2_bringToLevel ({ frames := 2, cells := 0, slots := 0, locals := 38 } : Room) [.ref (q 38), .ref (q 40), .int z2] (wX q d I A) (fun v _ w' => ∃ (I' : Nat → Int32) (A' : Nat → Nat → Int32), Md [] I I' ∧ Md [22] A A' ∧ IvX I' A' ∧ FE (fX2_bringToLevel_2 I A z2) (0, I', A') ∧ v = none ∧ w' = wX q d I' A') 0 0 := by
  refine GM.of (cc := cX2_bringToLevel) (maxL := 3) (ret := none) (own := RX2) (lv := [(0, .ref (q 38)), (1, .ref (q 40)), (2, .int z2)]) (by decide) rfl rfl (Nat.le_of_ble_eq_true rfl) rfl (fun κ sz hk hR hN => ?_)
  have hin2 : ∀ w ∈ u_ws RX2 TX2 10, w ∈ wz_k217_X2_bringToLevel := fun w h => (List.mem_cons_of_mem _ (List.mem_append_right _ (List.mem_append_left _ h)))
  have hF : FE (fX2_bringToLevel_2 I A z2) (fX2_bringToLevel_2 I A z2) := FE.rf
  refine g_aload_n hk dX2_bringToLevel_0 rfl ?_
  refine gX_i30 (v := (I 30)) hk hin2 (List.mem_cons_of_mem _ (List.mem_append_left _ (List.mem_of_getElem? (i := 0) rfl))) dX2_bringToLevel_1 rfl ?_
  have f3315 := IvX_f30 hIv
  refine g_iconst (v := 1) hk dX2_bringToLevel_4 (by decide) ?_
  refine g_icmp_lt (tgt := 17) (a := (I 30).toInt) (b := 1) hk dX2_bringToLevel_5 (by decide) rfl rfl (fun z9 => absurd z9 (show ¬ ((I 30).toInt < 1) from by omega)) (fun _ => ?_)
  refine g_aload_n hk dX2_bringToLevel_8 rfl ?_
  refine gX_i30 (v := (I 30)) hk hin2 (List.mem_cons_of_mem _ (List.mem_append_left _ (List.mem_of_getElem? (i := 0) rfl))) dX2_bringToLevel_9 rfl ?_
  refine g_aload_n hk dX2_bringToLevel_12 rfl ?_
  refine nX_22 hk dX2_bringToLevel_13 ?_
  refine g_icmp_le (tgt := 18) (a := (I 30).toInt) (b := 16) hk dX2_bringToLevel_14 (by decide) rfl rfl (fun _ => ?_) (fun z9 => absurd (show (I 30).toInt ≤ 16 from by omega) z9)
  refine g_iload_n hk dX2_bringToLevel_18 rfl ?_
  refine g_iconst (v := 1) hk dX2_bringToLevel_19 (by decide) ?_
  have b3316l := Int32.le_toInt z2
  have b3316h := Int32.toInt_lt z2
  refine g_icmp_ne (tgt := 43) (a := z2.toInt) (b := 1) hk dX2_bringToLevel_20 (by decide) rfl rfl (fun c3317 => ?_) (fun c3317 => ?_)
  · skip
    replace hF := FE.pos hF c3317
    refine g_iload_n hk dX2_bringToLevel_43 rfl ?_
    refine g_iconst (v := 2) hk dX2_bringToLevel_44 (by decide) ?_
    refine g_icmp_ne (tgt := 59) (a := z2.toInt) (b := 2) hk dX2_bringToLevel_45 (by decide) rfl rfl (fun c3318 => ?_) (fun c3318 => ?_)
    · skip
      replace hF := FE.pos hF c3318
      refine g_iload_n hk dX2_bringToLevel_59 rfl ?_
      refine g_iconst (v := 3) hk dX2_bringToLevel_60 (by decide) ?_
      refine g_icmp_ne (tgt := 69) (a := z2.toInt) (b := 3) hk dX2_bringToLevel_61 (by decide) rfl rfl (fun c3319 => ?_) (fun c3319 => ?_)
      · skip
        replace hF := FE.pos hF c3319
        exact g_vret hk hR ⟨I, A, (show Md [] I I from Md.rf), (show Md [22] A A from Md.rf), hIv, hF, rfl, rfl⟩ dX2_bringToLevel_69
      · skip
        replace hF := FE.neg hF c3319
        refine g_aload_n hk dX2_bringToLevel_64 rfl ?_
        refine g_aload_n hk dX2_bringToLevel_65 rfl ?_
        refine g_callV (n := 1) hk (k229_X2_spreadAll l D zt q d I A  hIv) (SP.same _) (fun _ h => h) (gi_V (List.mem_cons_of_mem _ (List.mem_append_left _ (List.mem_of_getElem? (i := 1) rfl))) (List.mem_cons_of_mem _ (List.mem_append_left _ (List.mem_of_getElem? (i := 2) rfl))) (List.mem_cons_of_mem _ (List.mem_append_left _ (List.mem_of_getElem? (i := 3) rfl))) (List.mem_cons_of_mem _ (List.mem_append_left _ (List.mem_of_getElem? (i := 4) rfl))) (gi_sub (fun w h => (List.mem_cons_of_mem _ (List.mem_append_right _ (List.mem_append_right _ (List.mem_append_left _ h))))) zg_k218_X2_spreadAll)) rfl rfl rfl (by decide +kernel) ⟨Nat.le_of_ble_eq_true rfl, Nat.le_of_ble_eq_true rfl⟩ 38 rfl rfl rfl rfl (Nat.le_of_ble_eq_true rfl) ⟨Nat.le_of_ble_eq_true rfl, Nat.le_of_ble_eq_true rfl⟩ dX2_bringToLevel_66 (fun v ty' w' hp hk' => ?_)
        obtain ⟨I3711, A3711, hI3711, hA3711, hV3711, hC, rfl, rfl⟩ := hp
        replace hF := FE.bdX hF hC
        show GW κ 3 0 0 (wX q d I3711 A3711) 69 [(0, .ref (q 38)), (1, .ref (q 40)), (2, .int z2)] []
        exact g_vret hk hR ⟨I3711, A3711, (show Md [] I I3711 from (Md.tr Md.rf hI3711 rfl)), (show Md [22] A A3711 from (Md.tr Md.rf hA3711 rfl)), hV3711, hF, rfl, rfl⟩ dX2_bringToLevel_69
    · skip
      replace hF := FE.neg hF c3318
      refine g_aload_n hk dX2_bringToLevel_48 rfl ?_
      refine g_aload_n hk dX2_bringToLevel_49 rfl ?_
      refine g_aload_n hk dX2_bringToLevel_50 rfl ?_
      refine g_iconst (v := 0) hk dX2_bringToLevel_51 (by decide) ?_
      refine lX_22 (v := (A 22 0)) hk (vp_in_iff.mpr ⟨by decide, by decide⟩) rfl dX2_bringToLevel_52 ?_
      refine g_callV (n := 2) hk (k230_X2_lessenAll l D zt q d I A (A 22 0) hIv) (SP.same _) (fun _ h => h) (gi_V (List.mem_cons_of_mem _ (List.mem_append_left _ (List.mem_of_getElem? (i := 5) rfl))) (List.mem_cons_of_mem _ (List.mem_append_left _ (List.mem_of_getElem? (i := 6) rfl))) (List.mem_cons_of_mem _ (List.mem_append_left _ (List.mem_of_getElem? (i := 7) rfl))) (List.mem_cons_of_mem _ (List.mem_append_left _ (List.mem_of_getElem? (i := 4) rfl))) (gi_sub (fun w h => (List.mem_cons_of_mem _ (List.mem_append_right _ (List.mem_append_right _ (List.mem_append_right _ (List.mem_append_left _ h)))))) zg_k219_X2_lessenAll)) rfl rfl rfl (by decide +kernel) ⟨Nat.le_of_ble_eq_true rfl, Nat.le_of_ble_eq_true rfl⟩ 38 rfl rfl rfl rfl (Nat.le_of_ble_eq_true rfl) ⟨Nat.le_of_ble_eq_true rfl, Nat.le_of_ble_eq_true rfl⟩ dX2_bringToLevel_53 (fun v ty' w' hp hk' => ?_)
      obtain ⟨I3756, A3756, hI3756, hA3756, hV3756, hC, rfl, rfl⟩ := hp
      replace hF := FE.bdX hF hC
      show GW κ 3 0 0 (wX q d I3756 A3756) 56 [(0, .ref (q 38)), (1, .ref (q 40)), (2, .int z2)] []
      refine g_goto (tgt := 69) hk dX2_bringToLevel_56 (by decide) ?_
      exact g_vret hk hR ⟨I3756, A3756, (show Md [] I I3756 from (Md.tr Md.rf hI3756 rfl)), (show Md [22] A A3756 from (Md.tr Md.rf hA3756 rfl)), hV3756, hF, rfl, rfl⟩ dX2_bringToLevel_69
  · skip
    replace hF := FE.neg hF c3317
    refine g_aload_n hk dX2_bringToLevel_23 rfl ?_
    refine g_aload_n hk dX2_bringToLevel_24 rfl ?_
    refine g_aload_n hk dX2_bringToLevel_25 rfl ?_
    refine g_aload_n hk dX2_bringToLevel_26 rfl ?_
    refine g_callV (n := 1) hk (k231_X2_sumOf l D zt q d I A  hIv) (SP.same _) (fun _ h => h) (gi_V (List.mem_cons_of_mem _ (List.mem_append_left _ (List.mem_of_getElem? (i := 8) rfl))) (List.mem_cons_of_mem _ (List.mem_append_left _ (List.mem_of_getElem? (i := 9) rfl))) (List.mem_cons_of_mem _ (List.mem_append_left _ (List.mem_of_getElem? (i := 10) rfl))) (List.mem_cons_of_mem _ (List.mem_append_left _ (List.mem_of_getElem? (i := 4) rfl))) (gi_sub (fun w h => (List.mem_cons_of_mem _ (List.mem_append_right _ (List.mem_append_right _ (List.mem_append_right _ (List.mem_append_right _ (List.mem_append_left _ h))))))) zg_k220_X2_sumOf)) rfl rfl rfl (by decide +kernel) ⟨Nat.le_of_ble_eq_true rfl, Nat.le_of_ble_eq_true rfl⟩ 38 rfl rfl rfl rfl (Nat.le_of_ble_eq_true rfl) ⟨Nat.le_of_ble_eq_true rfl, Nat.le_of_ble_eq_true rfl⟩ dX2_bringToLevel_27 (fun v ty' w' hp hk' => ?_)
    obtain ⟨y3800, hC, rfl, rfl⟩ := hp
    replace hF := FE.lt hF (fe_s hC)
    show GW κ 3 0 0 (wX q d I A) 30 [(0, .ref (q 38)), (1, .ref (q 40)), (2, .int z2)] [.int y3800, .ref (q 40), .ref (q 38)]
    refine g_aload_n hk dX2_bringToLevel_30 rfl ?_
    refine gX_i30 (v := (I 30)) hk hin2 (List.mem_cons_of_mem _ (List.mem_append_left _ (List.mem_of_getElem? (i := 0) rfl))) dX2_bringToLevel_31 rfl ?_
    refine g_callS (n := 2) hk (k189_J9_floorDiv_7cf53 l D zt q d I A y3800 (I 30) hIv (by omega)) (SP.same _) (fun _ h => h) (gi_S (List.mem_cons_of_mem _ (List.mem_append_left _ (List.mem_of_getElem? (i := 11) rfl))) (List.mem_cons_of_mem _ (List.mem_append_left _ (List.mem_of_getElem? (i := 12) rfl))) (List.mem_cons_of_mem _ (List.mem_append_left _ (List.mem_of_getElem? (i := 13) rfl))) (gi_sub (fun w h => (List.mem_cons_of_mem _ (List.mem_append_right _ (List.mem_append_right _ (List.mem_append_right _ (List.mem_append_right _ (List.mem_append_right _ (List.mem_append_left _ h)))))))) zg_k189_J9_floorDiv_7cf53)) rfl rfl rfl (by decide +kernel) ⟨Nat.le_of_ble_eq_true rfl, Nat.le_of_ble_eq_true rfl⟩ rfl rfl (Nat.le_of_ble_eq_true rfl) ⟨Nat.le_of_ble_eq_true rfl, Nat.le_of_ble_eq_true rfl⟩ dX2_bringToLevel_34 (fun v ty' w' hp hk' => ?_)
    obtain ⟨y3801, hC, rfl, rfl⟩ := hp
    replace hF := FE.lt hF (fe_s hC)
    show GW κ 3 0 0 (wX q d I A) 37 [(0, .ref (q 38)), (1, .ref (q 40)), (2, .int z2)] [.int y3801, .ref (q 40), .ref (q 38)]
    refine g_callV (n := 2) hk (k230_X2_lessenAll l D zt q d I A y3801 hIv) (SP.same _) (fun _ h => h) (gi_V (List.mem_cons_of_mem _ (List.mem_append_left _ (List.mem_of_getElem? (i := 5) rfl))) (List.mem_cons_of_mem _ (List.mem_append_left _ (List.mem_of_getElem? (i := 6) rfl))) (List.mem_cons_of_mem _ (List.mem_append_left _ (List.mem_of_getElem? (i := 7) rfl))) (List.mem_cons_of_mem _ (List.mem_append_left _ (List.mem_of_getElem? (i := 4) rfl))) (gi_sub (fun w h => (List.mem_cons_of_mem _ (List.mem_append_right _ (List.mem_append_right _ (List.mem_append_right _ (List.mem_append_left _ h)))))) zg_k219_X2_lessenAll)) rfl rfl rfl (by decide +kernel) ⟨Nat.le_of_ble_eq_true rfl, Nat.le_of_ble_eq_true rfl⟩ 38 rfl rfl rfl rfl (Nat.le_of_ble_eq_true rfl) ⟨Nat.le_of_ble_eq_true rfl, Nat.le_of_ble_eq_true rfl⟩ dX2_bringToLevel_37 (fun v ty' w' hp hk' => ?_)
    obtain ⟨I3803, A3803, hI3803, hA3803, hV3803, hC, rfl, rfl⟩ := hp
    replace hF := FE.bdX hF hC
    show GW κ 3 0 0 (wX q d I3803 A3803) 40 [(0, .ref (q 38)), (1, .ref (q 40)), (2, .int z2)] []
    refine g_goto (tgt := 69) hk dX2_bringToLevel_40 (by decide) ?_
    exact g_vret hk hR ⟨I3803, A3803, (show Md [] I I3803 from (Md.tr Md.rf hI3803 rfl)), (show Md [22] A A3803 from (Md.tr Md.rf hA3803 rfl)), hV3803, hF, rfl, rfl⟩ dX2_bringToLevel_69
noncomputable def fX0_laySecondWindow (I : Nat → Int32) (A : Nat → Nat → Int32) (z1 : Int32) : Int32 × (Nat → Int32) × (Nat → Nat → Int32) := f_bdX (fX6_copyWindow_2 I A z1 (I 28)) fun _ I3312 A3312 => f_lt (fX7_valueOf_2 I3312 A3312 1) fun y3314 => f_bdX (fX2_bringToLevel_2 I3312 A3312 y3314) fun _ I3805 A3805 => (0, I3805, A3805)
def wo_k226_X0_laySecondWindow : List Cond := [Cond.fieldLink RX0 18 "WarpDesk$Bench" "series" "LWarpDesk$Series;", Cond.fieldLink RX0 77 "WarpDesk$Bench" "length" "I", Cond.fieldLink RX0 12 "WarpDesk$Bench" "fit" "LWarpDesk$Fit;", Cond.fieldLink RX0 88 "WarpDesk$Fit" "right" "[I", Cond.methodLink RX0 81 yX6_copyWindow, Cond.instanceMethod yX6_copyWindow, Cond.selects RX6 yX6_copyWindow yX6_copyWindow, Cond.initialized RX6, Cond.fieldLink RX0 26 "WarpDesk$Bench" "settings" "LWarpDesk$Settings;", Cond.methodLink RX0 49 yX7_valueOf, Cond.instanceMethod yX7_valueOf, Cond.selects RX7 yX7_valueOf yX7_valueOf, Cond.initialized RX7, Cond.methodLink RX0 73 yX2_bringToLevel, Cond.instanceMethod yX2_bringToLevel, Cond.selects RX2 yX2_bringToLevel yX2_bringToLevel, Cond.initialized RX2]
def wz_k226_X0_laySecondWindow : List Cond := .code yX0_laySecondWindow cX0_laySecondWindow 2 none :: (wo_k226_X0_laySecondWindow ++ (wsX00 ++ (wsX20 ++ (wz_k216_X6_copyWindow ++ (wz_k174_X7_valueOf ++ (wz_k217_X2_bringToLevel ++ ([] : List Cond)))))))
theorem zg_k226_X0_laySecondWindow : ∀ w ∈ wz_k226_X0_laySecondWindow, goodWord w = true := zg_cons rfl (zg_app (by decide +kernel) (zg_app zgU_wsX00 (zg_app zgU_wsX20 (zg_app zg_k216_X6_copyWindow (zg_app zg_k174_X7_valueOf (zg_app zg_k217_X2_bringToLevel zg_nil))))))
theorem zi_k226_X0_laySecondWindow : ∀ w ∈ wz_k226_X0_laySecondWindow, w ∈ lw_tbl := zi_cons zw_991 (zi_app (zi_cons zw_373 (zi_cons zw_384 (zi_cons zw_380 (zi_cons zw_338 (zi_cons zw_944 (zi_cons zw_945 (zi_cons zw_946 (zi_cons zw_109 (zi_cons zw_378 (zi_cons zw_933 (zi_cons zw_786 (zi_cons zw_787 (zi_cons zw_107 (zi_cons zw_948 (zi_cons zw_949 (zi_cons zw_950 (zi_cons zw_112 zi_nil))))))))))))))))) (zi_app inX0 (zi_app inX2 (zi_app zi_k216_X6_copyWindow (zi_app zi_k174_X7_valueOf (zi_app zi_k217_X2_bringToLevel zi_nil))))))
set_option maxHeartbeats 4000000 in
set_option maxRecDepth 100000 in
theorem k226_X0_laySecondWindow (l : Launch) (D : va_G) (zt : Nat × Nat × Nat × (Nat → Nat) × (Nat → Nat)) (q : Nat → Nat) (d : Nat → ClassId) (I : Nat → Int32) (A : Nat → Nat → Int32) (z1 : Int32) (hIv : IvX I A) : GM l D zt (tyX d) yX0_laySecondWindow wz_k226_X0_laySecondWindow ({ frames := 3, cells := 0, slots := 0, locals := 60 } : Room) [.ref (q 37), .int z1] (wX q d I A) (fun v _ w' => ∃ (I' : Nat → Int32) (A' : Nat → Nat → Int32), Md [] I I' ∧ Md [22] A A' ∧ IvX I' A' ∧ FE (fX0_laySecondWindow I A z1) (0, I', A') ∧ v = none ∧ w' = wX q d I' A') 0 0 := by
  refine GM.of (cc := cX0_laySecondWindow) (maxL := 2) (ret := none) (own := RX0) (lv := [(0, .ref (q 37)), (1, .int z1)]) (by decide) rfl rfl (Nat.le_of_ble_eq_true rfl) rfl (fun κ sz hk hR hN => ?_)
  have hin0 : ∀ w ∈ u_ws RX0 TX0 5, w ∈ wz_k226_X0_laySecondWindow := fun w h => (List.mem_cons_of_mem _ (List.mem_append_right _ (List.mem_append_left _ h)))
  have hin2 : ∀ w ∈ u_ws RX2 TX2 10, w ∈ wz_k226_X0_laySecondWindow := fun w h => (List.mem_cons_of_mem _ (List.mem_append_right _ (List.mem_append_right _ (List.mem_append_left _ h))))
  have hF : FE (fX0_laySecondWindow I A z1) (fX0_laySecondWindow I A z1) := FE.rf
  refine g_aload_n hk dX0_laySecondWindow_0 rfl ?_
  refine gX_r37_0 hk hin0 (List.mem_cons_of_mem _ (List.mem_append_left _ (List.mem_of_getElem? (i := 0) rfl))) dX0_laySecondWindow_1 ?_
  refine g_iload_n hk dX0_laySecondWindow_4 rfl ?_
  refine g_aload_n hk dX0_laySecondWindow_5 rfl ?_
  refine gX_i28 (v := (I 28)) hk hin0 (List.mem_cons_of_mem _ (List.mem_append_left _ (List.mem_of_getElem? (i := 1) rfl))) dX0_laySecondWindow_6 rfl ?_
  refine g_aload_n hk dX0_laySecondWindow_9 rfl ?_
  refine gX_r37_3 hk hin0 (List.mem_cons_of_mem _ (List.mem_append_left _ (List.mem_of_getElem? (i := 2) rfl))) dX0_laySecondWindow_10 ?_
  refine gX_r38_1 hk hin2 (List.mem_cons_of_mem _ (List.mem_append_left _ (List.mem_of_getElem? (i := 3) rfl))) dX0_laySecondWindow_13 ?_
  refine g_callV (n := 3) hk (k227_X6_copyWindow l D zt q d I A z1 (I 28) hIv) (SP.same _) (fun _ h => h) (gi_V (List.mem_cons_of_mem _ (List.mem_append_left _ (List.mem_of_getElem? (i := 4) rfl))) (List.mem_cons_of_mem _ (List.mem_append_left _ (List.mem_of_getElem? (i := 5) rfl))) (List.mem_cons_of_mem _ (List.mem_append_left _ (List.mem_of_getElem? (i := 6) rfl))) (List.mem_cons_of_mem _ (List.mem_append_left _ (List.mem_of_getElem? (i := 7) rfl))) (gi_sub (fun w h => (List.mem_cons_of_mem _ (List.mem_append_right _ (List.mem_append_right _ (List.mem_append_right _ (List.mem_append_left _ h)))))) zg_k216_X6_copyWindow)) rfl rfl rfl (by decide +kernel) ⟨Nat.le_of_ble_eq_true rfl, Nat.le_of_ble_eq_true rfl⟩ 13 rfl rfl rfl rfl (Nat.le_of_ble_eq_true rfl) ⟨Nat.le_of_ble_eq_true rfl, Nat.le_of_ble_eq_true rfl⟩ dX0_laySecondWindow_16 (fun v ty' w' hp hk' => ?_)
  obtain ⟨I3312, A3312, hI3312, hA3312, hV3312, hC, rfl, rfl⟩ := hp
  replace hF := FE.bdX hF hC
  show GW κ 2 0 0 (wX q d I3312 A3312) 19 [(0, .ref (q 37)), (1, .int z1)] []
  refine g_aload_n hk dX0_laySecondWindow_19 rfl ?_
  refine gX_r37_3 hk hin0 (List.mem_cons_of_mem _ (List.mem_append_left _ (List.mem_of_getElem? (i := 2) rfl))) dX0_laySecondWindow_20 ?_
  refine g_aload_n hk dX0_laySecondWindow_23 rfl ?_
  refine gX_r37_3 hk hin0 (List.mem_cons_of_mem _ (List.mem_append_left _ (List.mem_of_getElem? (i := 2) rfl))) dX0_laySecondWindow_24 ?_
  refine gX_r38_1 hk hin2 (List.mem_cons_of_mem _ (List.mem_append_left _ (List.mem_of_getElem? (i := 3) rfl))) dX0_laySecondWindow_27 ?_
  refine g_aload_n hk dX0_laySecondWindow_30 rfl ?_
  refine gX_r37_2 hk hin0 (List.mem_cons_of_mem _ (List.mem_append_left _ (List.mem_of_getElem? (i := 8) rfl))) dX0_laySecondWindow_31 ?_
  refine g_iconst (v := 1) hk dX0_laySecondWindow_34 (by decide) ?_
  have k3313 : (1 : Int32).toInt = 1 := rfl
  refine g_callV (n := 1) hk (k194_X7_valueOf l D zt q d I3312 A3312 1 hV3312) (SP.same _) (fun _ h => h) (gi_V (List.mem_cons_of_mem _ (List.mem_append_left _ (List.mem_of_getElem? (i := 9) rfl))) (List.mem_cons_of_mem _ (List.mem_append_left _ (List.mem_of_getElem? (i := 10) rfl))) (List.mem_cons_of_mem _ (List.mem_append_left _ (List.mem_of_getElem? (i := 11) rfl))) (List.mem_cons_of_mem _ (List.mem_append_left _ (List.mem_of_getElem? (i := 12) rfl))) (gi_sub (fun w h => (List.mem_cons_of_mem _ (List.mem_append_right _ (List.mem_append_right _ (List.mem_append_right _ (List.mem_append_right _ (List.mem_append_left _ h))))))) zg_k174_X7_valueOf)) rfl rfl rfl (by decide +kernel) ⟨Nat.le_of_ble_eq_true rfl, Nat.le_of_ble_eq_true rfl⟩ 18 rfl rfl rfl rfl (Nat.le_of_ble_eq_true rfl) ⟨Nat.le_of_ble_eq_true rfl, Nat.le_of_ble_eq_true rfl⟩ dX0_laySecondWindow_35 (fun v ty' w' hp hk' => ?_)
  obtain ⟨y3314, hC, rfl, rfl⟩ := hp
  replace hF := FE.lt hF (fe_s hC)
  show GW κ 2 0 0 (wX q d I3312 A3312) 38 [(0, .ref (q 37)), (1, .int z1)] [.int y3314, .ref (q 40), .ref (q 38)]
  refine g_callV (n := 2) hk (k228_X2_bringToLevel l D zt q d I3312 A3312 y3314 hV3312) (SP.same _) (fun _ h => h) (gi_V (List.mem_cons_of_mem _ (List.mem_append_left _ (List.mem_of_getElem? (i := 13) rfl))) (List.mem_cons_of_mem _ (List.mem_append_left _ (List.mem_of_getElem? (i := 14) rfl))) (List.mem_cons_of_mem _ (List.mem_append_left _ (List.mem_of_getElem? (i := 15) rfl))) (List.mem_cons_of_mem _ (List.mem_append_left _ (List.mem_of_getElem? (i := 16) rfl))) (gi_sub (fun w h => (List.mem_cons_of_mem _ (List.mem_append_right _ (List.mem_append_right _ (List.mem_append_right _ (List.mem_append_right _ (List.mem_append_right _ (List.mem_append_left _ h)))))))) zg_k217_X2_bringToLevel)) rfl rfl rfl (by decide +kernel) ⟨Nat.le_of_ble_eq_true rfl, Nat.le_of_ble_eq_true rfl⟩ 38 rfl rfl rfl rfl (Nat.le_of_ble_eq_true rfl) ⟨Nat.le_of_ble_eq_true rfl, Nat.le_of_ble_eq_true rfl⟩ dX0_laySecondWindow_38 (fun v ty' w' hp hk' => ?_)
  obtain ⟨I3805, A3805, hI3805, hA3805, hV3805, hC, rfl, rfl⟩ := hp
  replace hF := FE.bdX hF hC
  show GW κ 2 0 0 (wX q d I3805 A3805) 41 [(0, .ref (q 37)), (1, .int z1)] []
  exact g_vret hk hR ⟨I3805, A3805, (show Md [] I I3805 from (Md.tr (Md.tr Md.rf hI3312 rfl) hI3805 rfl)), (show Md [22] A A3805 from (Md.tr (Md.tr Md.rf hA3312 rfl) hA3805 rfl)), hV3805, hF, rfl, rfl⟩ dX0_laySecondWindow_41
noncomputable def fX0_openBoth (I : Nat → Int32) (A : Nat → Nat → Int32) (z1 : Int32) (z2 : Int32) : Int32 × (Nat → Int32) × (Nat → Nat → Int32) := if fX0_hasBoth I A z1 z2 = 0 then (0, I, A) else f_lt (fX7_valueOf_2 I A 0) fun y3150 => f_bdX (fX0_openQuery I A z1 y3150) fun _ I3260 A3260 => f_bdX (fX0_laySecondWindow I3260 A3260 z2) fun _ I3807 A3807 => (1, I3807, A3807)
def wo_k222_X0_openBoth : List Cond := [Cond.methodLink RX0 46 yX0_hasBoth, Cond.instanceMethod yX0_hasBoth, Cond.selects RX0 yX0_hasBoth yX0_hasBoth, Cond.initialized RX0, Cond.fieldLink RX0 26 "WarpDesk$Bench" "settings" "LWarpDesk$Settings;", Cond.methodLink RX0 49 yX7_valueOf, Cond.instanceMethod yX7_valueOf, Cond.selects RX7 yX7_valueOf yX7_valueOf, Cond.initialized RX7, Cond.methodLink RX0 54 yX0_openQuery, Cond.instanceMethod yX0_openQuery, Cond.selects RX0 yX0_openQuery yX0_openQuery, Cond.methodLink RX0 58 yX0_laySecondWindow, Cond.instanceMethod yX0_laySecondWindow, Cond.selects RX0 yX0_laySecondWindow yX0_laySecondWindow]
def wz_k222_X0_openBoth : List Cond := .code yX0_openBoth cX0_openBoth 3 (some .boolean) :: (wo_k222_X0_openBoth ++ (wsX00 ++ (wz_k223_X0_hasBoth ++ (wz_k174_X7_valueOf ++ (wz_k224_X0_openQuery ++ (wz_k226_X0_laySecondWindow ++ ([] : List Cond)))))))
theorem zg_k222_X0_openBoth : ∀ w ∈ wz_k222_X0_openBoth, goodWord w = true := zg_cons rfl (zg_app (by decide +kernel) (zg_app zgU_wsX00 (zg_app zg_k223_X0_hasBoth (zg_app zg_k174_X7_valueOf (zg_app zg_k224_X0_openQuery (zg_app zg_k226_X0_laySecondWindow zg_nil))))))
theorem zi_k222_X0_openBoth : ∀ w ∈ wz_k222_X0_openBoth, w ∈ lw_tbl := zi_cons zw_972 (zi_app (zi_cons zw_973 (zi_cons zw_974 (zi_cons zw_975 (zi_cons zw_111 (zi_cons zw_378 (zi_cons zw_933 (zi_cons zw_786 (zi_cons zw_787 (zi_cons zw_107 (zi_cons zw_980 (zi_cons zw_981 (zi_cons zw_982 (zi_cons zw_988 (zi_cons zw_989 (zi_cons zw_990 zi_nil))))))))))))))) (zi_app inX0 (zi_app zi_k223_X0_hasBoth (zi_app zi_k174_X7_valueOf (zi_app zi_k224_X0_openQuery (zi_app zi_k226_X0_laySecondWindow zi_nil))))))
set_option maxHeartbeats 4000000 in
set_option maxRecDepth 100000 in
theorem k222_X0_openBoth (l : Launch) (D : va_G) (zt : Nat × Nat × Nat × (Nat → Nat) × (Nat → Nat)) (q : Nat → Nat) (d : Nat → ClassId) (I : Nat → Int32) (A : Nat → Nat → Int32) (z1 : Int32) (z2 : Int32) (hIv : IvX I A) : GM l D zt (tyX d) yX0_openBoth wz_k222_X0_openBoth ({ frames := 5, cells := 0, slots := 0, locals := 109 } : Room) [.ref (q 37), .int z1, .int z2] (wX q d I A) (fun v _ w' => ∃ (I' : Nat → Int32) (A' : Nat → Nat → Int32), Md [28, 30, 31, 32] I I' ∧ Md [21, 22] A A' ∧ IvX I' A' ∧ ∃ y0 : Int32, (0 ≤ y0.toInt) ∧ (y0.toInt ≤ 1) ∧ FE (fX0_openBoth I A z1 z2) (y0, I', A') ∧ v = some (.int y0) ∧ w' = wX q d I' A') 0 0 := by
  refine GM.of (cc := cX0_openBoth) (maxL := 3) (ret := (some .boolean)) (own := RX0) (lv := [(0, .ref (q 37)), (1, .int z1), (2, .int z2)]) (by decide) rfl rfl (Nat.le_of_ble_eq_true rfl) rfl (fun κ sz hk hR hN => ?_)
  have hin0 : ∀ w ∈ u_ws RX0 TX0 5, w ∈ wz_k222_X0_openBoth := fun w h => (List.mem_cons_of_mem _ (List.mem_append_right _ (List.mem_append_left _ h)))
  have hF : FE (fX0_openBoth I A z1 z2) (fX0_openBoth I A z1 z2) := FE.rf
  refine g_aload_n hk dX0_openBoth_0 rfl ?_
  refine g_iload_n hk dX0_openBoth_1 rfl ?_
  refine g_iload_n hk dX0_openBoth_2 rfl ?_
  refine g_callV (n := 2) hk (k223_X0_hasBoth l D zt q d I A z1 z2 hIv) (SP.same _) (fun _ h => h) (gi_V (List.mem_cons_of_mem _ (List.mem_append_left _ (List.mem_of_getElem? (i := 0) rfl))) (List.mem_cons_of_mem _ (List.mem_append_left _ (List.mem_of_getElem? (i := 1) rfl))) (List.mem_cons_of_mem _ (List.mem_append_left _ (List.mem_of_getElem? (i := 2) rfl))) (List.mem_cons_of_mem _ (List.mem_append_left _ (List.mem_of_getElem? (i := 3) rfl))) (gi_sub (fun w h => (List.mem_cons_of_mem _ (List.mem_append_right _ (List.mem_append_right _ (List.mem_append_left _ h))))) zg_k223_X0_hasBoth)) rfl rfl rfl (by decide +kernel) ⟨Nat.le_of_ble_eq_true rfl, Nat.le_of_ble_eq_true rfl⟩ 37 rfl rfl rfl rfl (Nat.le_of_ble_eq_true rfl) ⟨Nat.le_of_ble_eq_true rfl, Nat.le_of_ble_eq_true rfl⟩ dX0_openBoth_3 (fun v ty' w' hp hk' => ?_)
  rcases hp with ⟨hC, rfl, rfl⟩ | ⟨c3140, c3141, c3142, c3143, c3144, c3145, c3146, c3147, hC, rfl, rfl⟩
  · skip
    replace hF := FE.pos hF hC
    show GW κ 3 0 0 (wX q d I A) 6 [(0, .ref (q 37)), (1, .int z1), (2, .int z2)] [.int 0]
    refine g_if_ne (tgt := 11) (a := 0) hk dX0_openBoth_6 (by decide) rfl (fun z9 => absurd z9 (show ¬ ((0 : Int) ≠ (0 : Int)) from by decide)) (fun _ => ?_)
    refine g_iconst (v := 0) hk dX0_openBoth_9 (by decide) ?_
    exact g_iret hk hR rfl ⟨I, A, (show Md [28, 30, 31, 32] I I from Md.rf), (show Md [21, 22] A A from Md.rf), hIv, 0, (by decide), (by decide), hF, rfl, rfl⟩ dX0_openBoth_10
  · skip
    replace hF := FE.neg hF (fe_ne hC (by decide))
    show GW κ 3 0 0 (wX q d I A) 6 [(0, .ref (q 37)), (1, .int z1), (2, .int z2)] [.int 1]
    refine g_if_ne (tgt := 11) (a := 1) hk dX0_openBoth_6 (by decide) rfl (fun _ => ?_) (fun z9 => absurd (show (1 : Int) ≠ (0 : Int) from by decide) z9)
    refine g_aload_n hk dX0_openBoth_11 rfl ?_
    refine g_iload_n hk dX0_openBoth_12 rfl ?_
    refine g_aload_n hk dX0_openBoth_13 rfl ?_
    refine gX_r37_2 hk hin0 (List.mem_cons_of_mem _ (List.mem_append_left _ (List.mem_of_getElem? (i := 4) rfl))) dX0_openBoth_14 ?_
    refine g_iconst (v := 0) hk dX0_openBoth_17 (by decide) ?_
    have k3149 : (0 : Int32).toInt = 0 := rfl
    refine g_callV (n := 1) hk (k194_X7_valueOf l D zt q d I A 0 hIv) (SP.same _) (fun _ h => h) (gi_V (List.mem_cons_of_mem _ (List.mem_append_left _ (List.mem_of_getElem? (i := 5) rfl))) (List.mem_cons_of_mem _ (List.mem_append_left _ (List.mem_of_getElem? (i := 6) rfl))) (List.mem_cons_of_mem _ (List.mem_append_left _ (List.mem_of_getElem? (i := 7) rfl))) (List.mem_cons_of_mem _ (List.mem_append_left _ (List.mem_of_getElem? (i := 8) rfl))) (gi_sub (fun w h => (List.mem_cons_of_mem _ (List.mem_append_right _ (List.mem_append_right _ (List.mem_append_right _ (List.mem_append_left _ h)))))) zg_k174_X7_valueOf)) rfl rfl rfl (by decide +kernel) ⟨Nat.le_of_ble_eq_true rfl, Nat.le_of_ble_eq_true rfl⟩ 18 rfl rfl rfl rfl (Nat.le_of_ble_eq_true rfl) ⟨Nat.le_of_ble_eq_true rfl, Nat.le_of_ble_eq_true rfl⟩ dX0_openBoth_18 (fun v ty' w' hp hk' => ?_)
    obtain ⟨y3150, hC, rfl, rfl⟩ := hp
    replace hF := FE.lt hF (fe_s hC)
    show GW κ 3 0 0 (wX q d I A) 21 [(0, .ref (q 37)), (1, .int z1), (2, .int z2)] [.int y3150, .int z1, .ref (q 37)]
    refine g_callV (n := 2) hk (k224_X0_openQuery l D zt q d I A z1 y3150 hIv) (SP.same _) (fun _ h => h) (gi_V (List.mem_cons_of_mem _ (List.mem_append_left _ (List.mem_of_getElem? (i := 9) rfl))) (List.mem_cons_of_mem _ (List.mem_append_left _ (List.mem_of_getElem? (i := 10) rfl))) (List.mem_cons_of_mem _ (List.mem_append_left _ (List.mem_of_getElem? (i := 11) rfl))) (List.mem_cons_of_mem _ (List.mem_append_left _ (List.mem_of_getElem? (i := 3) rfl))) (gi_sub (fun w h => (List.mem_cons_of_mem _ (List.mem_append_right _ (List.mem_append_right _ (List.mem_append_right _ (List.mem_append_right _ (List.mem_append_left _ h))))))) zg_k224_X0_openQuery)) rfl rfl rfl (by decide +kernel) ⟨Nat.le_of_ble_eq_true rfl, Nat.le_of_ble_eq_true rfl⟩ 37 rfl rfl rfl rfl (Nat.le_of_ble_eq_true rfl) ⟨Nat.le_of_ble_eq_true rfl, Nat.le_of_ble_eq_true rfl⟩ dX0_openBoth_21 (fun v ty' w' hp hk' => ?_)
    obtain ⟨I3260, A3260, hI3260, hA3260, hV3260, hC, rfl, rfl⟩ := hp
    replace hF := FE.bdX hF hC
    show GW κ 3 0 0 (wX q d I3260 A3260) 24 [(0, .ref (q 37)), (1, .int z1), (2, .int z2)] []
    refine g_aload_n hk dX0_openBoth_24 rfl ?_
    refine g_iload_n hk dX0_openBoth_25 rfl ?_
    refine g_callV (n := 1) hk (k226_X0_laySecondWindow l D zt q d I3260 A3260 z2 hV3260) (SP.same _) (fun _ h => h) (gi_V (List.mem_cons_of_mem _ (List.mem_append_left _ (List.mem_of_getElem? (i := 12) rfl))) (List.mem_cons_of_mem _ (List.mem_append_left _ (List.mem_of_getElem? (i := 13) rfl))) (List.mem_cons_of_mem _ (List.mem_append_left _ (List.mem_of_getElem? (i := 14) rfl))) (List.mem_cons_of_mem _ (List.mem_append_left _ (List.mem_of_getElem? (i := 3) rfl))) (gi_sub (fun w h => (List.mem_cons_of_mem _ (List.mem_append_right _ (List.mem_append_right _ (List.mem_append_right _ (List.mem_append_right _ (List.mem_append_right _ (List.mem_append_left _ h)))))))) zg_k226_X0_laySecondWindow)) rfl rfl rfl (by decide +kernel) ⟨Nat.le_of_ble_eq_true rfl, Nat.le_of_ble_eq_true rfl⟩ 37 rfl rfl rfl rfl (Nat.le_of_ble_eq_true rfl) ⟨Nat.le_of_ble_eq_true rfl, Nat.le_of_ble_eq_true rfl⟩ dX0_openBoth_26 (fun v ty' w' hp hk' => ?_)
    obtain ⟨I3807, A3807, hI3807, hA3807, hV3807, hC, rfl, rfl⟩ := hp
    replace hF := FE.bdX hF hC
    show GW κ 3 0 0 (wX q d I3807 A3807) 29 [(0, .ref (q 37)), (1, .int z1), (2, .int z2)] []
    refine g_iconst (v := 1) hk dX0_openBoth_29 (by decide) ?_
    exact g_iret hk hR rfl ⟨I3807, A3807, (show Md [28, 30, 31, 32] I I3807 from (Md.tr (Md.tr Md.rf hI3260 rfl) hI3807 rfl)), (show Md [21, 22] A A3807 from (Md.tr (Md.tr Md.rf hA3260 rfl) hA3807 rfl)), hV3807, 1, (by decide), (by decide), hF, rfl, rfl⟩ dX0_openBoth_30
noncomputable def fX2_costOf (I : Nat → Int32) (A : Nat → Nat → Int32) (z1 : Int32) (z2 : Int32) : Int32 := f_lt (z1 - z2) fun y3845 => if (I 32).toInt = 0 then if 0 ≤ y3845.toInt then y3845 else f_lt (-y3845) fun y3850 => y3850 else f_lt (y3845 * y3845) fun y3853 => y3853
def wo_k235_X2_costOf : List Cond := [Cond.fieldLink RX2 42 "WarpDesk$Fit" "isSquare" "Z"]
def wz_k235_X2_costOf : List Cond := .code yX2_costOf cX2_costOf 4 (some .int) :: (wo_k235_X2_costOf ++ (wsX20 ++ ([] : List Cond)))
theorem zg_k235_X2_costOf : ∀ w ∈ wz_k235_X2_costOf, goodWord w = true := zg_cons rfl (zg_app (by decide +kernel) (zg_app zgU_wsX20 zg_nil))
theorem zi_k235_X2_costOf : ∀ w ∈ wz_k235_X2_costOf, w ∈ lw_tbl := zi_cons zw_1008 (zi_app (zi_cons zw_345 zi_nil) (zi_app inX2 zi_nil))
set_option maxHeartbeats 4000000 in
set_option maxRecDepth 100000 in
theorem k235_X2_costOf (l : Launch) (D : va_G) (zt : Nat × Nat × Nat × (Nat → Nat) × (Nat → Nat)) (q : Nat → Nat) (d : Nat → ClassId) (I : Nat → Int32) (A : Nat → Nat → Int32) (z1 : Int32) (z2 : Int32) (hIv : IvX I A) : GM l D zt (tyX d) yX2_costOf wz_k235_X2_costOf ({ frames := 0, cells := 0, slots := 0, locals := 0 } : Room) [.ref (q 38), .int z1, .int z2] (wX q d I A) (fun v _ w' => ∃ y0 : Int32, FE (fX2_costOf I A z1 z2) y0 ∧ v = some (.int y0) ∧ w' = wX q d I A) 0 0 := by
  refine GM.of (cc := cX2_costOf) (maxL := 4) (ret := (some .int)) (own := RX2) (lv := [(0, .ref (q 38)), (1, .int z1), (2, .int z2)]) (by decide) rfl rfl (Nat.le_of_ble_eq_true rfl) rfl (fun κ sz hk hR hN => ?_)
  have hin2 : ∀ w ∈ u_ws RX2 TX2 10, w ∈ wz_k235_X2_costOf := fun w h => (List.mem_cons_of_mem _ (List.mem_append_right _ (List.mem_append_left _ h)))
  have hF : FE (fX2_costOf I A z1 z2) (fX2_costOf I A z1 z2) := FE.rf
  refine g_iload_n hk dX2_costOf_0 rfl ?_
  refine g_iload_n hk dX2_costOf_1 rfl ?_
  have b3843l := Int32.le_toInt z1
  have b3843h := Int32.toInt_lt z1
  have b3844l := Int32.le_toInt z2
  have b3844h := Int32.toInt_lt z2
  refine g_isub hk dX2_costOf_2 ?_
  refine g_topi (fun y3845 ey3845 => ?_)
  replace hF := FE.lt hF ey3845
  have hy3845 := i32_sub0 ey3845
  refine g_istore_n (lv' := [(3, .int y3845), (0, .ref (q 38)), (1, .int z1), (2, .int z2)]) hk dX2_costOf_3 (by decide) rfl ?_
  refine g_aload_n hk dX2_costOf_4 rfl ?_
  refine gX_i32 (v := (I 32)) hk hin2 (List.mem_cons_of_mem _ (List.mem_append_left _ (List.mem_of_getElem? (i := 0) rfl))) dX2_costOf_5 rfl ?_
  have b3846l := Int32.le_toInt (I 32)
  have b3846h := Int32.toInt_lt (I 32)
  refine g_if_eq (tgt := 15) (a := (I 32).toInt) hk dX2_costOf_8 (by decide) rfl (fun c3847 => ?_) (fun c3847 => ?_)
  · skip
    replace hF := FE.pos hF c3847
    refine g_iload_n hk dX2_costOf_15 rfl ?_
    have b3848l := Int32.le_toInt y3845
    have b3848h := Int32.toInt_lt y3845
    refine g_if_ge (tgt := 24) (a := y3845.toInt) hk dX2_costOf_16 (by decide) rfl (fun c3849 => ?_) (fun c3849 => ?_)
    · skip
      replace hF := FE.pos hF c3849
      refine g_iload_n hk dX2_costOf_24 rfl ?_
      exact g_iret hk hR rfl ⟨y3845, hF, rfl, rfl⟩ dX2_costOf_25
    · skip
      replace hF := FE.neg hF c3849
      refine g_iload_n hk dX2_costOf_19 rfl ?_
      refine g_ineg hk dX2_costOf_20 ?_
      refine g_topi (fun y3850 ey3850 => ?_)
      replace hF := FE.lt hF ey3850
      refine g_goto (tgt := 25) hk dX2_costOf_21 (by decide) ?_
      have b3851l := Int32.le_toInt y3850
      have b3851h := Int32.toInt_lt y3850
      exact g_iret hk hR rfl ⟨y3850, hF, rfl, rfl⟩ dX2_costOf_25
  · skip
    replace hF := FE.neg hF c3847
    refine g_iload_n hk dX2_costOf_11 rfl ?_
    refine g_iload_n hk dX2_costOf_12 rfl ?_
    have b3852l := Int32.le_toInt y3845
    have b3852h := Int32.toInt_lt y3845
    refine g_imul hk dX2_costOf_13 ?_
    refine g_topi (fun y3853 ey3853 => ?_)
    replace hF := FE.lt hF ey3853
    have b3854l := Int32.le_toInt y3853
    have b3854h := Int32.toInt_lt y3853
    exact g_iret hk hR rfl ⟨y3853, hF, rfl, rfl⟩ dX2_costOf_14
noncomputable def fX2_leastAhead (I : Nat → Int32) (A : Nat → Nat → Int32) (z1 : Int32) (z2 : Int32) : Int32 := f_lt (z1 * (16 : Int32)) fun y3857 => f_lt (y3857 + z2) fun y3858 => if z1.toInt ≤ 0 then if z2.toInt ≤ 0 then 2147483647 else f_lt (z1 - z2) fun y3861 => f_lt (y3858 - (1 : Int32)) fun y3864 => if 2147483647 ≤ (A 23 y3864.toNatClampNeg).toInt then 2147483647 else f_lt (y3858 - (1 : Int32)) fun y3867 => (A 23 y3867.toNatClampNeg) else if z2.toInt ≤ 0 then f_lt (z2 - z1) fun y3870 => f_lt (y3858 - (16 : Int32)) fun y3873 => if 2147483647 ≤ (A 23 y3873.toNatClampNeg).toInt then 2147483647 else f_lt (y3858 - (16 : Int32)) fun y3876 => (A 23 y3876.toNatClampNeg) else f_lt (y3858 - (16 : Int32)) fun y3878 => f_lt (y3878 - (1 : Int32)) fun y3879 => f_lt (z2 - z1) fun y3880 => if (I 31).toInt ≤ y3880.toInt then f_lt (z1 - z2) fun y3884 => if (I 31).toInt ≤ y3884.toInt then (A 23 y3879.toNatClampNeg) else f_lt (y3858 - (1 : Int32)) fun y3887 => if (A 23 y3879.toNatClampNeg).toInt ≤ (A 23 y3887.toNatClampNeg).toInt then (A 23 y3879.toNatClampNeg) else f_lt (y3858 - (1 : Int32)) fun y3891 => (A 23 y3891.toNatClampNeg) else f_lt (y3858 - (16 : Int32)) fun y3893 => if (A 23 y3879.toNatClampNeg).toInt ≤ (A 23 y3893.toNatClampNeg).toInt then f_lt (z1 - z2) fun y3897 => if (I 31).toInt ≤ y3897.toInt then (A 23 y3879.toNatClampNeg) else f_lt (y3858 - (1 : Int32)) fun y3899 => if (A 23 y3879.toNatClampNeg).toInt ≤ (A 23 y3899.toNatClampNeg).toInt then (A 23 y3879.toNatClampNeg) else f_lt (y3858 - (1 : Int32)) fun y3902 => (A 23 y3902.toNatClampNeg) else f_lt (y3858 - (16 : Int32)) fun y3904 => f_lt (z1 - z2) fun y3905 => if (I 31).toInt ≤ y3905.toInt then (A 23 y3904.toNatClampNeg) else f_lt (y3858 - (1 : Int32)) fun y3908 => if (A 23 y3904.toNatClampNeg).toInt ≤ (A 23 y3908.toNatClampNeg).toInt then (A 23 y3904.toNatClampNeg) else f_lt (y3858 - (1 : Int32)) fun y3912 => (A 23 y3912.toNatClampNeg)
def wo_k236_X2_leastAhead : List Cond := [Cond.constant RX2 93 (2147483647), Cond.fieldLink RX2 37 "WarpDesk$Fit" "band" "I", Cond.fieldLink RX2 18 "WarpDesk$Fit" "table" "[I"]
def wz_k236_X2_leastAhead : List Cond := .code yX2_leastAhead cX2_leastAhead 5 (some .int) :: (wo_k236_X2_leastAhead ++ (wsX20 ++ ([] : List Cond)))
theorem zg_k236_X2_leastAhead : ∀ w ∈ wz_k236_X2_leastAhead, goodWord w = true := zg_cons rfl (zg_app (by decide +kernel) (zg_app zgU_wsX20 zg_nil))
theorem zi_k236_X2_leastAhead : ∀ w ∈ wz_k236_X2_leastAhead, w ∈ lw_tbl := zi_cons zw_1012 (zi_app (zi_cons zw_996 (zi_cons zw_344 (zi_cons zw_339 zi_nil))) (zi_app inX2 zi_nil))
set_option maxHeartbeats 4000000 in
set_option maxRecDepth 100000 in
theorem k236_X2_leastAhead (l : Launch) (D : va_G) (zt : Nat × Nat × Nat × (Nat → Nat) × (Nat → Nat)) (q : Nat → Nat) (d : Nat → ClassId) (I : Nat → Int32) (A : Nat → Nat → Int32) (z1 : Int32) (z2 : Int32) (hIv : IvX I A) (hp0 : 0 ≤ z1.toInt) (hp1 : z1.toInt ≤ 15) (hp2 : 0 ≤ z2.toInt) (hp3 : z2.toInt ≤ 15) : GM l D zt (tyX d) yX2_leastAhead wz_k236_X2_leastAhead ({ frames := 0, cells := 0, slots := 0, locals := 0 } : Room) [.ref (q 38), .int z1, .int z2] (wX q d I A) (fun v _ w' => ∃ y0 : Int32, FE (fX2_leastAhead I A z1 z2) y0 ∧ v = some (.int y0) ∧ w' = wX q d I A) 0 0 := by
  refine GM.of (cc := cX2_leastAhead) (maxL := 5) (ret := (some .int)) (own := RX2) (lv := [(0, .ref (q 38)), (1, .int z1), (2, .int z2)]) (by decide) rfl rfl (Nat.le_of_ble_eq_true rfl) rfl (fun κ sz hk hR hN => ?_)
  have hin2 : ∀ w ∈ u_ws RX2 TX2 10, w ∈ wz_k236_X2_leastAhead := fun w h => (List.mem_cons_of_mem _ (List.mem_append_right _ (List.mem_append_left _ h)))
  have hF : FE (fX2_leastAhead I A z1 z2) (fX2_leastAhead I A z1 z2) := FE.rf
  refine g_iload_n hk dX2_leastAhead_0 rfl ?_
  refine g_bipush (v := 16) hk dX2_leastAhead_1 (by decide) ?_
  refine g_imul hk dX2_leastAhead_3 ?_
  refine g_topi (fun y3857 ey3857 => ?_)
  replace hF := FE.lt hF ey3857
  have hy3857 : y3857.toInt = z1.toInt * 16 := i32_mul ey3857 rfl rfl (by omega) (by omega)
  refine g_iload_n hk dX2_leastAhead_4 rfl ?_
  refine g_iadd hk dX2_leastAhead_5 ?_
  refine g_topi (fun y3858 ey3858 => ?_)
  replace hF := FE.lt hF ey3858
  have hy3858 : y3858.toInt = y3857.toInt + z2.toInt := i32_add ey3858 rfl rfl (by omega) (by omega)
  refine g_istore_n (lv' := [(3, .int y3858), (0, .ref (q 38)), (1, .int z1), (2, .int z2)]) hk dX2_leastAhead_6 (by decide) rfl ?_
  refine g_ldc (v := 2147483647) hk (List.mem_cons_of_mem _ (List.mem_append_left _ (List.mem_of_getElem? (i := 0) rfl))) dX2_leastAhead_7 ?_
  refine g_istore (lv' := [(4, .int 2147483647), (3, .int y3858), (0, .ref (q 38)), (1, .int z1), (2, .int z2)]) hk dX2_leastAhead_9 (by decide) rfl ?_
  refine g_iload_n hk dX2_leastAhead_11 rfl ?_
  refine g_if_le (tgt := 32) (a := z1.toInt) hk dX2_leastAhead_12 (by decide) rfl (fun c3859 => ?_) (fun c3859 => ?_)
  · skip
    replace hF := FE.pos hF c3859
    refine g_iload_n hk dX2_leastAhead_32 rfl ?_
    refine g_if_le (tgt := 71) (a := z1.toInt) hk dX2_leastAhead_33 (by decide) rfl (fun _ => ?_) (fun z9 => absurd (show z1.toInt ≤ 0 from by omega) z9)
    refine g_iload_n hk dX2_leastAhead_71 rfl ?_
    refine g_if_le (tgt := 108) (a := z2.toInt) hk dX2_leastAhead_72 (by decide) rfl (fun c3860 => ?_) (fun c3860 => ?_)
    · skip
      replace hF := FE.pos hF c3860
      refine g_iload hk dX2_leastAhead_108 rfl ?_
      exact g_iret hk hR rfl ⟨2147483647, hF, rfl, rfl⟩ dX2_leastAhead_110
    · skip
      replace hF := FE.neg hF c3860
      refine g_iload_n hk dX2_leastAhead_75 rfl ?_
      refine g_iload_n hk dX2_leastAhead_76 rfl ?_
      refine g_isub hk dX2_leastAhead_77 ?_
      refine g_topi (fun y3861 ey3861 => ?_)
      replace hF := FE.lt hF ey3861
      have hy3861 : y3861.toInt = z1.toInt - z2.toInt := i32_sub ey3861 rfl rfl (by omega) (by omega)
      refine g_aload_n hk dX2_leastAhead_78 rfl ?_
      refine gX_i31 (v := (I 31)) hk hin2 (List.mem_cons_of_mem _ (List.mem_append_left _ (List.mem_of_getElem? (i := 1) rfl))) dX2_leastAhead_79 rfl ?_
      have f3862 := IvX_f31 hIv
      have b3863l := Int32.le_toInt (I 31)
      have b3863h := Int32.toInt_lt (I 31)
      refine g_icmp_ge (tgt := 108) (a := y3861.toInt) (b := (I 31).toInt) hk dX2_leastAhead_82 (by decide) rfl rfl (fun z9 => absurd z9 (show ¬ ((I 31).toInt ≤ y3861.toInt) from by omega)) (fun _ => ?_)
      refine g_aload_n hk dX2_leastAhead_85 rfl ?_
      refine gX_r38_2 hk hin2 (List.mem_cons_of_mem _ (List.mem_append_left _ (List.mem_of_getElem? (i := 2) rfl))) dX2_leastAhead_86 ?_
      refine g_iload_n hk dX2_leastAhead_89 rfl ?_
      refine g_iconst (v := 1) hk dX2_leastAhead_90 (by decide) ?_
      refine g_isub hk dX2_leastAhead_91 ?_
      refine g_topi (fun y3864 ey3864 => ?_)
      replace hF := FE.lt hF ey3864
      have hy3864 : y3864.toInt = y3858.toInt - 1 := i32_sub ey3864 rfl rfl (by omega) (by omega)
      refine lX_23 (v := (A 23 y3864.toNatClampNeg)) hk (vp_in_iff.mpr ⟨by omega, by omega⟩) rfl dX2_leastAhead_92 ?_
      refine g_iload hk dX2_leastAhead_93 rfl ?_
      have b3865l := Int32.le_toInt (A 23 y3864.toNatClampNeg)
      have b3865h := Int32.toInt_lt (A 23 y3864.toNatClampNeg)
      refine g_icmp_ge (tgt := 108) (a := (A 23 y3864.toNatClampNeg).toInt) (b := 2147483647) hk dX2_leastAhead_95 (by decide) rfl rfl (fun c3866 => ?_) (fun c3866 => ?_)
      · skip
        replace hF := FE.pos hF c3866
        refine g_iload hk dX2_leastAhead_108 rfl ?_
        exact g_iret hk hR rfl ⟨2147483647, hF, rfl, rfl⟩ dX2_leastAhead_110
      · skip
        replace hF := FE.neg hF c3866
        refine g_aload_n hk dX2_leastAhead_98 rfl ?_
        refine gX_r38_2 hk hin2 (List.mem_cons_of_mem _ (List.mem_append_left _ (List.mem_of_getElem? (i := 2) rfl))) dX2_leastAhead_99 ?_
        refine g_iload_n hk dX2_leastAhead_102 rfl ?_
        refine g_iconst (v := 1) hk dX2_leastAhead_103 (by decide) ?_
        refine g_isub hk dX2_leastAhead_104 ?_
        refine g_topi (fun y3867 ey3867 => ?_)
        replace hF := FE.lt hF ey3867
        have hy3867 : y3867.toInt = y3858.toInt - 1 := i32_sub ey3867 rfl rfl (by omega) (by omega)
        refine lX_23 (v := (A 23 y3867.toNatClampNeg)) hk (vp_in_iff.mpr ⟨by omega, by omega⟩) rfl dX2_leastAhead_105 ?_
        refine g_istore (lv' := [(4, .int (A 23 y3867.toNatClampNeg)), (3, .int y3858), (0, .ref (q 38)), (1, .int z1), (2, .int z2)]) hk dX2_leastAhead_106 (by decide) rfl ?_
        refine g_iload hk dX2_leastAhead_108 rfl ?_
        have b3868l := Int32.le_toInt (A 23 y3867.toNatClampNeg)
        have b3868h := Int32.toInt_lt (A 23 y3867.toNatClampNeg)
        exact g_iret hk hR rfl ⟨(A 23 y3867.toNatClampNeg), hF, rfl, rfl⟩ dX2_leastAhead_110
  · skip
    replace hF := FE.neg hF c3859
    refine g_iload_n hk dX2_leastAhead_15 rfl ?_
    refine g_if_le (tgt := 32) (a := z2.toInt) hk dX2_leastAhead_16 (by decide) rfl (fun c3869 => ?_) (fun c3869 => ?_)
    · skip
      replace hF := FE.pos hF c3869
      refine g_iload_n hk dX2_leastAhead_32 rfl ?_
      refine g_if_le (tgt := 71) (a := z1.toInt) hk dX2_leastAhead_33 (by decide) rfl (fun z9 => absurd z9 (show ¬ (z1.toInt ≤ 0) from by omega)) (fun _ => ?_)
      refine g_iload_n hk dX2_leastAhead_36 rfl ?_
      refine g_iload_n hk dX2_leastAhead_37 rfl ?_
      refine g_isub hk dX2_leastAhead_38 ?_
      refine g_topi (fun y3870 ey3870 => ?_)
      replace hF := FE.lt hF ey3870
      have hy3870 : y3870.toInt = z2.toInt - z1.toInt := i32_sub ey3870 rfl rfl (by omega) (by omega)
      refine g_aload_n hk dX2_leastAhead_39 rfl ?_
      refine gX_i31 (v := (I 31)) hk hin2 (List.mem_cons_of_mem _ (List.mem_append_left _ (List.mem_of_getElem? (i := 1) rfl))) dX2_leastAhead_40 rfl ?_
      have f3871 := IvX_f31 hIv
      have b3872l := Int32.le_toInt (I 31)
      have b3872h := Int32.toInt_lt (I 31)
      refine g_icmp_ge (tgt := 71) (a := y3870.toInt) (b := (I 31).toInt) hk dX2_leastAhead_43 (by decide) rfl rfl (fun z9 => absurd z9 (show ¬ ((I 31).toInt ≤ y3870.toInt) from by omega)) (fun _ => ?_)
      refine g_aload_n hk dX2_leastAhead_46 rfl ?_
      refine gX_r38_2 hk hin2 (List.mem_cons_of_mem _ (List.mem_append_left _ (List.mem_of_getElem? (i := 2) rfl))) dX2_leastAhead_47 ?_
      refine g_iload_n hk dX2_leastAhead_50 rfl ?_
      refine g_bipush (v := 16) hk dX2_leastAhead_51 (by decide) ?_
      refine g_isub hk dX2_leastAhead_53 ?_
      refine g_topi (fun y3873 ey3873 => ?_)
      replace hF := FE.lt hF ey3873
      have hy3873 : y3873.toInt = y3858.toInt - 16 := i32_sub ey3873 rfl rfl (by omega) (by omega)
      refine lX_23 (v := (A 23 y3873.toNatClampNeg)) hk (vp_in_iff.mpr ⟨by omega, by omega⟩) rfl dX2_leastAhead_54 ?_
      refine g_iload hk dX2_leastAhead_55 rfl ?_
      have b3874l := Int32.le_toInt (A 23 y3873.toNatClampNeg)
      have b3874h := Int32.toInt_lt (A 23 y3873.toNatClampNeg)
      refine g_icmp_ge (tgt := 71) (a := (A 23 y3873.toNatClampNeg).toInt) (b := 2147483647) hk dX2_leastAhead_57 (by decide) rfl rfl (fun c3875 => ?_) (fun c3875 => ?_)
      · skip
        replace hF := FE.pos hF c3875
        refine g_iload_n hk dX2_leastAhead_71 rfl ?_
        refine g_if_le (tgt := 108) (a := z2.toInt) hk dX2_leastAhead_72 (by decide) rfl (fun _ => ?_) (fun z9 => absurd (show z2.toInt ≤ 0 from by omega) z9)
        refine g_iload hk dX2_leastAhead_108 rfl ?_
        exact g_iret hk hR rfl ⟨2147483647, hF, rfl, rfl⟩ dX2_leastAhead_110
      · skip
        replace hF := FE.neg hF c3875
        refine g_aload_n hk dX2_leastAhead_60 rfl ?_
        refine gX_r38_2 hk hin2 (List.mem_cons_of_mem _ (List.mem_append_left _ (List.mem_of_getElem? (i := 2) rfl))) dX2_leastAhead_61 ?_
        refine g_iload_n hk dX2_leastAhead_64 rfl ?_
        refine g_bipush (v := 16) hk dX2_leastAhead_65 (by decide) ?_
        refine g_isub hk dX2_leastAhead_67 ?_
        refine g_topi (fun y3876 ey3876 => ?_)
        replace hF := FE.lt hF ey3876
        have hy3876 : y3876.toInt = y3858.toInt - 16 := i32_sub ey3876 rfl rfl (by omega) (by omega)
        refine lX_23 (v := (A 23 y3876.toNatClampNeg)) hk (vp_in_iff.mpr ⟨by omega, by omega⟩) rfl dX2_leastAhead_68 ?_
        refine g_istore (lv' := [(4, .int (A 23 y3876.toNatClampNeg)), (3, .int y3858), (0, .ref (q 38)), (1, .int z1), (2, .int z2)]) hk dX2_leastAhead_69 (by decide) rfl ?_
        refine g_iload_n hk dX2_leastAhead_71 rfl ?_
        refine g_if_le (tgt := 108) (a := z2.toInt) hk dX2_leastAhead_72 (by decide) rfl (fun _ => ?_) (fun z9 => absurd (show z2.toInt ≤ 0 from by omega) z9)
        refine g_iload hk dX2_leastAhead_108 rfl ?_
        have b3877l := Int32.le_toInt (A 23 y3876.toNatClampNeg)
        have b3877h := Int32.toInt_lt (A 23 y3876.toNatClampNeg)
        exact g_iret hk hR rfl ⟨(A 23 y3876.toNatClampNeg), hF, rfl, rfl⟩ dX2_leastAhead_110
    · skip
      replace hF := FE.neg hF c3869
      refine g_aload_n hk dX2_leastAhead_19 rfl ?_
      refine gX_r38_2 hk hin2 (List.mem_cons_of_mem _ (List.mem_append_left _ (List.mem_of_getElem? (i := 2) rfl))) dX2_leastAhead_20 ?_
      refine g_iload_n hk dX2_leastAhead_23 rfl ?_
      refine g_bipush (v := 16) hk dX2_leastAhead_24 (by decide) ?_
      refine g_isub hk dX2_leastAhead_26 ?_
      refine g_topi (fun y3878 ey3878 => ?_)
      replace hF := FE.lt hF ey3878
      have hy3878 : y3878.toInt = y3858.toInt - 16 := i32_sub ey3878 rfl rfl (by omega) (by omega)
      refine g_iconst (v := 1) hk dX2_leastAhead_27 (by decide) ?_
      refine g_isub hk dX2_leastAhead_28 ?_
      refine g_topi (fun y3879 ey3879 => ?_)
      replace hF := FE.lt hF ey3879
      have hy3879 : y3879.toInt = y3878.toInt - 1 := i32_sub ey3879 rfl rfl (by omega) (by omega)
      refine lX_23 (v := (A 23 y3879.toNatClampNeg)) hk (vp_in_iff.mpr ⟨by omega, by omega⟩) rfl dX2_leastAhead_29 ?_
      refine g_istore (lv' := [(4, .int (A 23 y3879.toNatClampNeg)), (3, .int y3858), (0, .ref (q 38)), (1, .int z1), (2, .int z2)]) hk dX2_leastAhead_30 (by decide) rfl ?_
      refine g_iload_n hk dX2_leastAhead_32 rfl ?_
      refine g_if_le (tgt := 71) (a := z1.toInt) hk dX2_leastAhead_33 (by decide) rfl (fun z9 => absurd z9 (show ¬ (z1.toInt ≤ 0) from by omega)) (fun _ => ?_)
      refine g_iload_n hk dX2_leastAhead_36 rfl ?_
      refine g_iload_n hk dX2_leastAhead_37 rfl ?_
      refine g_isub hk dX2_leastAhead_38 ?_
      refine g_topi (fun y3880 ey3880 => ?_)
      replace hF := FE.lt hF ey3880
      have hy3880 : y3880.toInt = z2.toInt - z1.toInt := i32_sub ey3880 rfl rfl (by omega) (by omega)
      refine g_aload_n hk dX2_leastAhead_39 rfl ?_
      refine gX_i31 (v := (I 31)) hk hin2 (List.mem_cons_of_mem _ (List.mem_append_left _ (List.mem_of_getElem? (i := 1) rfl))) dX2_leastAhead_40 rfl ?_
      have f3881 := IvX_f31 hIv
      have b3882l := Int32.le_toInt (I 31)
      have b3882h := Int32.toInt_lt (I 31)
      refine g_icmp_ge (tgt := 71) (a := y3880.toInt) (b := (I 31).toInt) hk dX2_leastAhead_43 (by decide) rfl rfl (fun c3883 => ?_) (fun c3883 => ?_)
      · skip
        replace hF := FE.pos hF c3883
        refine g_iload_n hk dX2_leastAhead_71 rfl ?_
        refine g_if_le (tgt := 108) (a := z2.toInt) hk dX2_leastAhead_72 (by decide) rfl (fun z9 => absurd z9 (show ¬ (z2.toInt ≤ 0) from by omega)) (fun _ => ?_)
        refine g_iload_n hk dX2_leastAhead_75 rfl ?_
        refine g_iload_n hk dX2_leastAhead_76 rfl ?_
        refine g_isub hk dX2_leastAhead_77 ?_
        refine g_topi (fun y3884 ey3884 => ?_)
        replace hF := FE.lt hF ey3884
        have hy3884 : y3884.toInt = z1.toInt - z2.toInt := i32_sub ey3884 rfl rfl (by omega) (by omega)
        refine g_aload_n hk dX2_leastAhead_78 rfl ?_
        refine gX_i31 (v := (I 31)) hk hin2 (List.mem_cons_of_mem _ (List.mem_append_left _ (List.mem_of_getElem? (i := 1) rfl))) dX2_leastAhead_79 rfl ?_
        refine g_icmp_ge (tgt := 108) (a := y3884.toInt) (b := (I 31).toInt) hk dX2_leastAhead_82 (by decide) rfl rfl (fun c3885 => ?_) (fun c3885 => ?_)
        · skip
          replace hF := FE.pos hF c3885
          refine g_iload hk dX2_leastAhead_108 rfl ?_
          have b3886l := Int32.le_toInt (A 23 y3879.toNatClampNeg)
          have b3886h := Int32.toInt_lt (A 23 y3879.toNatClampNeg)
          exact g_iret hk hR rfl ⟨(A 23 y3879.toNatClampNeg), hF, rfl, rfl⟩ dX2_leastAhead_110
        · skip
          replace hF := FE.neg hF c3885
          refine g_aload_n hk dX2_leastAhead_85 rfl ?_
          refine gX_r38_2 hk hin2 (List.mem_cons_of_mem _ (List.mem_append_left _ (List.mem_of_getElem? (i := 2) rfl))) dX2_leastAhead_86 ?_
          refine g_iload_n hk dX2_leastAhead_89 rfl ?_
          refine g_iconst (v := 1) hk dX2_leastAhead_90 (by decide) ?_
          refine g_isub hk dX2_leastAhead_91 ?_
          refine g_topi (fun y3887 ey3887 => ?_)
          replace hF := FE.lt hF ey3887
          have hy3887 : y3887.toInt = y3858.toInt - 1 := i32_sub ey3887 rfl rfl (by omega) (by omega)
          refine lX_23 (v := (A 23 y3887.toNatClampNeg)) hk (vp_in_iff.mpr ⟨by omega, by omega⟩) rfl dX2_leastAhead_92 ?_
          refine g_iload hk dX2_leastAhead_93 rfl ?_
          have b3888l := Int32.le_toInt (A 23 y3887.toNatClampNeg)
          have b3888h := Int32.toInt_lt (A 23 y3887.toNatClampNeg)
          have b3889l := Int32.le_toInt (A 23 y3879.toNatClampNeg)
          have b3889h := Int32.toInt_lt (A 23 y3879.toNatClampNeg)
          refine g_icmp_ge (tgt := 108) (a := (A 23 y3887.toNatClampNeg).toInt) (b := (A 23 y3879.toNatClampNeg).toInt) hk dX2_leastAhead_95 (by decide) rfl rfl (fun c3890 => ?_) (fun c3890 => ?_)
          · skip
            replace hF := FE.pos hF c3890
            refine g_iload hk dX2_leastAhead_108 rfl ?_
            exact g_iret hk hR rfl ⟨(A 23 y3879.toNatClampNeg), hF, rfl, rfl⟩ dX2_leastAhead_110
          · skip
            replace hF := FE.neg hF c3890
            refine g_aload_n hk dX2_leastAhead_98 rfl ?_
            refine gX_r38_2 hk hin2 (List.mem_cons_of_mem _ (List.mem_append_left _ (List.mem_of_getElem? (i := 2) rfl))) dX2_leastAhead_99 ?_
            refine g_iload_n hk dX2_leastAhead_102 rfl ?_
            refine g_iconst (v := 1) hk dX2_leastAhead_103 (by decide) ?_
            refine g_isub hk dX2_leastAhead_104 ?_
            refine g_topi (fun y3891 ey3891 => ?_)
            replace hF := FE.lt hF ey3891
            have hy3891 : y3891.toInt = y3858.toInt - 1 := i32_sub ey3891 rfl rfl (by omega) (by omega)
            refine lX_23 (v := (A 23 y3891.toNatClampNeg)) hk (vp_in_iff.mpr ⟨by omega, by omega⟩) rfl dX2_leastAhead_105 ?_
            refine g_istore (lv' := [(4, .int (A 23 y3891.toNatClampNeg)), (3, .int y3858), (0, .ref (q 38)), (1, .int z1), (2, .int z2)]) hk dX2_leastAhead_106 (by decide) rfl ?_
            refine g_iload hk dX2_leastAhead_108 rfl ?_
            have b3892l := Int32.le_toInt (A 23 y3891.toNatClampNeg)
            have b3892h := Int32.toInt_lt (A 23 y3891.toNatClampNeg)
            exact g_iret hk hR rfl ⟨(A 23 y3891.toNatClampNeg), hF, rfl, rfl⟩ dX2_leastAhead_110
      · skip
        replace hF := FE.neg hF c3883
        refine g_aload_n hk dX2_leastAhead_46 rfl ?_
        refine gX_r38_2 hk hin2 (List.mem_cons_of_mem _ (List.mem_append_left _ (List.mem_of_getElem? (i := 2) rfl))) dX2_leastAhead_47 ?_
        refine g_iload_n hk dX2_leastAhead_50 rfl ?_
        refine g_bipush (v := 16) hk dX2_leastAhead_51 (by decide) ?_
        refine g_isub hk dX2_leastAhead_53 ?_
        refine g_topi (fun y3893 ey3893 => ?_)
        replace hF := FE.lt hF ey3893
        have hy3893 : y3893.toInt = y3858.toInt - 16 := i32_sub ey3893 rfl rfl (by omega) (by omega)
        refine lX_23 (v := (A 23 y3893.toNatClampNeg)) hk (vp_in_iff.mpr ⟨by omega, by omega⟩) rfl dX2_leastAhead_54 ?_
        refine g_iload hk dX2_leastAhead_55 rfl ?_
        have b3894l := Int32.le_toInt (A 23 y3893.toNatClampNeg)
        have b3894h := Int32.toInt_lt (A 23 y3893.toNatClampNeg)
        have b3895l := Int32.le_toInt (A 23 y3879.toNatClampNeg)
        have b3895h := Int32.toInt_lt (A 23 y3879.toNatClampNeg)
        refine g_icmp_ge (tgt := 71) (a := (A 23 y3893.toNatClampNeg).toInt) (b := (A 23 y3879.toNatClampNeg).toInt) hk dX2_leastAhead_57 (by decide) rfl rfl (fun c3896 => ?_) (fun c3896 => ?_)
        · skip
          replace hF := FE.pos hF c3896
          refine g_iload_n hk dX2_leastAhead_71 rfl ?_
          refine g_if_le (tgt := 108) (a := z2.toInt) hk dX2_leastAhead_72 (by decide) rfl (fun z9 => absurd z9 (show ¬ (z2.toInt ≤ 0) from by omega)) (fun _ => ?_)
          refine g_iload_n hk dX2_leastAhead_75 rfl ?_
          refine g_iload_n hk dX2_leastAhead_76 rfl ?_
          refine g_isub hk dX2_leastAhead_77 ?_
          refine g_topi (fun y3897 ey3897 => ?_)
          replace hF := FE.lt hF ey3897
          have hy3897 : y3897.toInt = z1.toInt - z2.toInt := i32_sub ey3897 rfl rfl (by omega) (by omega)
          refine g_aload_n hk dX2_leastAhead_78 rfl ?_
          refine gX_i31 (v := (I 31)) hk hin2 (List.mem_cons_of_mem _ (List.mem_append_left _ (List.mem_of_getElem? (i := 1) rfl))) dX2_leastAhead_79 rfl ?_
          refine g_icmp_ge (tgt := 108) (a := y3897.toInt) (b := (I 31).toInt) hk dX2_leastAhead_82 (by decide) rfl rfl (fun c3898 => ?_) (fun c3898 => ?_)
          · skip
            replace hF := FE.pos hF c3898
            refine g_iload hk dX2_leastAhead_108 rfl ?_
            exact g_iret hk hR rfl ⟨(A 23 y3879.toNatClampNeg), hF, rfl, rfl⟩ dX2_leastAhead_110
          · skip
            replace hF := FE.neg hF c3898
            refine g_aload_n hk dX2_leastAhead_85 rfl ?_
            refine gX_r38_2 hk hin2 (List.mem_cons_of_mem _ (List.mem_append_left _ (List.mem_of_getElem? (i := 2) rfl))) dX2_leastAhead_86 ?_
            refine g_iload_n hk dX2_leastAhead_89 rfl ?_
            refine g_iconst (v := 1) hk dX2_leastAhead_90 (by decide) ?_
            refine g_isub hk dX2_leastAhead_91 ?_
            refine g_topi (fun y3899 ey3899 => ?_)
            replace hF := FE.lt hF ey3899
            have hy3899 : y3899.toInt = y3858.toInt - 1 := i32_sub ey3899 rfl rfl (by omega) (by omega)
            refine lX_23 (v := (A 23 y3899.toNatClampNeg)) hk (vp_in_iff.mpr ⟨by omega, by omega⟩) rfl dX2_leastAhead_92 ?_
            refine g_iload hk dX2_leastAhead_93 rfl ?_
            have b3900l := Int32.le_toInt (A 23 y3899.toNatClampNeg)
            have b3900h := Int32.toInt_lt (A 23 y3899.toNatClampNeg)
            refine g_icmp_ge (tgt := 108) (a := (A 23 y3899.toNatClampNeg).toInt) (b := (A 23 y3879.toNatClampNeg).toInt) hk dX2_leastAhead_95 (by decide) rfl rfl (fun c3901 => ?_) (fun c3901 => ?_)
            · skip
              replace hF := FE.pos hF c3901
              refine g_iload hk dX2_leastAhead_108 rfl ?_
              exact g_iret hk hR rfl ⟨(A 23 y3879.toNatClampNeg), hF, rfl, rfl⟩ dX2_leastAhead_110
            · skip
              replace hF := FE.neg hF c3901
              refine g_aload_n hk dX2_leastAhead_98 rfl ?_
              refine gX_r38_2 hk hin2 (List.mem_cons_of_mem _ (List.mem_append_left _ (List.mem_of_getElem? (i := 2) rfl))) dX2_leastAhead_99 ?_
              refine g_iload_n hk dX2_leastAhead_102 rfl ?_
              refine g_iconst (v := 1) hk dX2_leastAhead_103 (by decide) ?_
              refine g_isub hk dX2_leastAhead_104 ?_
              refine g_topi (fun y3902 ey3902 => ?_)
              replace hF := FE.lt hF ey3902
              have hy3902 : y3902.toInt = y3858.toInt - 1 := i32_sub ey3902 rfl rfl (by omega) (by omega)
              refine lX_23 (v := (A 23 y3902.toNatClampNeg)) hk (vp_in_iff.mpr ⟨by omega, by omega⟩) rfl dX2_leastAhead_105 ?_
              refine g_istore (lv' := [(4, .int (A 23 y3902.toNatClampNeg)), (3, .int y3858), (0, .ref (q 38)), (1, .int z1), (2, .int z2)]) hk dX2_leastAhead_106 (by decide) rfl ?_
              refine g_iload hk dX2_leastAhead_108 rfl ?_
              have b3903l := Int32.le_toInt (A 23 y3902.toNatClampNeg)
              have b3903h := Int32.toInt_lt (A 23 y3902.toNatClampNeg)
              exact g_iret hk hR rfl ⟨(A 23 y3902.toNatClampNeg), hF, rfl, rfl⟩ dX2_leastAhead_110
        · skip
          replace hF := FE.neg hF c3896
          refine g_aload_n hk dX2_leastAhead_60 rfl ?_
          refine gX_r38_2 hk hin2 (List.mem_cons_of_mem _ (List.mem_append_left _ (List.mem_of_getElem? (i := 2) rfl))) dX2_leastAhead_61 ?_
          refine g_iload_n hk dX2_leastAhead_64 rfl ?_
          refine g_bipush (v := 16) hk dX2_leastAhead_65 (by decide) ?_
          refine g_isub hk dX2_leastAhead_67 ?_
          refine g_topi (fun y3904 ey3904 => ?_)
          replace hF := FE.lt hF ey3904
          have hy3904 : y3904.toInt = y3858.toInt - 16 := i32_sub ey3904 rfl rfl (by omega) (by omega)
          refine lX_23 (v := (A 23 y3904.toNatClampNeg)) hk (vp_in_iff.mpr ⟨by omega, by omega⟩) rfl dX2_leastAhead_68 ?_
          refine g_istore (lv' := [(4, .int (A 23 y3904.toNatClampNeg)), (3, .int y3858), (0, .ref (q 38)), (1, .int z1), (2, .int z2)]) hk dX2_leastAhead_69 (by decide) rfl ?_
          refine g_iload_n hk dX2_leastAhead_71 rfl ?_
          refine g_if_le (tgt := 108) (a := z2.toInt) hk dX2_leastAhead_72 (by decide) rfl (fun z9 => absurd z9 (show ¬ (z2.toInt ≤ 0) from by omega)) (fun _ => ?_)
          refine g_iload_n hk dX2_leastAhead_75 rfl ?_
          refine g_iload_n hk dX2_leastAhead_76 rfl ?_
          refine g_isub hk dX2_leastAhead_77 ?_
          refine g_topi (fun y3905 ey3905 => ?_)
          replace hF := FE.lt hF ey3905
          have hy3905 : y3905.toInt = z1.toInt - z2.toInt := i32_sub ey3905 rfl rfl (by omega) (by omega)
          refine g_aload_n hk dX2_leastAhead_78 rfl ?_
          refine gX_i31 (v := (I 31)) hk hin2 (List.mem_cons_of_mem _ (List.mem_append_left _ (List.mem_of_getElem? (i := 1) rfl))) dX2_leastAhead_79 rfl ?_
          refine g_icmp_ge (tgt := 108) (a := y3905.toInt) (b := (I 31).toInt) hk dX2_leastAhead_82 (by decide) rfl rfl (fun c3906 => ?_) (fun c3906 => ?_)
          · skip
            replace hF := FE.pos hF c3906
            refine g_iload hk dX2_leastAhead_108 rfl ?_
            have b3907l := Int32.le_toInt (A 23 y3904.toNatClampNeg)
            have b3907h := Int32.toInt_lt (A 23 y3904.toNatClampNeg)
            exact g_iret hk hR rfl ⟨(A 23 y3904.toNatClampNeg), hF, rfl, rfl⟩ dX2_leastAhead_110
          · skip
            replace hF := FE.neg hF c3906
            refine g_aload_n hk dX2_leastAhead_85 rfl ?_
            refine gX_r38_2 hk hin2 (List.mem_cons_of_mem _ (List.mem_append_left _ (List.mem_of_getElem? (i := 2) rfl))) dX2_leastAhead_86 ?_
            refine g_iload_n hk dX2_leastAhead_89 rfl ?_
            refine g_iconst (v := 1) hk dX2_leastAhead_90 (by decide) ?_
            refine g_isub hk dX2_leastAhead_91 ?_
            refine g_topi (fun y3908 ey3908 => ?_)
            replace hF := FE.lt hF ey3908
            have hy3908 : y3908.toInt = y3858.toInt - 1 := i32_sub ey3908 rfl rfl (by omega) (by omega)
            refine lX_23 (v := (A 23 y3908.toNatClampNeg)) hk (vp_in_iff.mpr ⟨by omega, by omega⟩) rfl dX2_leastAhead_92 ?_
            refine g_iload hk dX2_leastAhead_93 rfl ?_
            have b3909l := Int32.le_toInt (A 23 y3908.toNatClampNeg)
            have b3909h := Int32.toInt_lt (A 23 y3908.toNatClampNeg)
            have b3910l := Int32.le_toInt (A 23 y3904.toNatClampNeg)
            have b3910h := Int32.toInt_lt (A 23 y3904.toNatClampNeg)
            refine g_icmp_ge (tgt := 108) (a := (A 23 y3908.toNatClampNeg).toInt) (b := (A 23 y3904.toNatClampNeg).toInt) hk dX2_leastAhead_95 (by decide) rfl rfl (fun c3911 => ?_) (fun c3911 => ?_)
            · skip
              replace hF := FE.pos hF c3911
              refine g_iload hk dX2_leastAhead_108 rfl ?_
              exact g_iret hk hR rfl ⟨(A 23 y3904.toNatClampNeg), hF, rfl, rfl⟩ dX2_leastAhead_110
            · skip
              replace hF := FE.neg hF c3911
              refine g_aload_n hk dX2_leastAhead_98 rfl ?_
              refine gX_r38_2 hk hin2 (List.mem_cons_of_mem _ (List.mem_append_left _ (List.mem_of_getElem? (i := 2) rfl))) dX2_leastAhead_99 ?_
              refine g_iload_n hk dX2_leastAhead_102 rfl ?_
              refine g_iconst (v := 1) hk dX2_leastAhead_103 (by decide) ?_
              refine g_isub hk dX2_leastAhead_104 ?_
              refine g_topi (fun y3912 ey3912 => ?_)
              replace hF := FE.lt hF ey3912
              have hy3912 : y3912.toInt = y3858.toInt - 1 := i32_sub ey3912 rfl rfl (by omega) (by omega)
              refine lX_23 (v := (A 23 y3912.toNatClampNeg)) hk (vp_in_iff.mpr ⟨by omega, by omega⟩) rfl dX2_leastAhead_105 ?_
              refine g_istore (lv' := [(4, .int (A 23 y3912.toNatClampNeg)), (3, .int y3858), (0, .ref (q 38)), (1, .int z1), (2, .int z2)]) hk dX2_leastAhead_106 (by decide) rfl ?_
              refine g_iload hk dX2_leastAhead_108 rfl ?_
              have b3913l := Int32.le_toInt (A 23 y3912.toNatClampNeg)
              have b3913h := Int32.toInt_lt (A 23 y3912.toNatClampNeg)
              exact g_iret hk hR rfl ⟨(A 23 y3912.toNatClampNeg), hF, rfl, rfl⟩ dX2_leastAhead_110
