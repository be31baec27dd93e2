noncomputable def fX7_valueOf (I : Nat → Int32) (A : Nat → Nat → Int32) (z1 : Int32) : Int32 := if z1.toInt < 0 then (-1) else if 4 ≤ z1.toInt then (-1) else (A 2 z1.toNatClampNeg)
def wz_k174_X7_valueOf : List Cond := .code yX7_valueOf cX7_valueOf 2 (some .int) :: (wo_k121_X7_put ++ (wsX70 ++ ([] : List Cond)))
theorem zg_k174_X7_valueOf : ∀ w ∈ wz_k174_X7_valueOf, goodWord w = true := zg_cons rfl (zg_app (by decide +kernel) (zg_app zgU_wsX70 zg_nil))
theorem zi_k174_X7_valueOf : ∀ w ∈ wz_k174_X7_valueOf, w ∈ lw_tbl := zi_cons zw_788 (zi_app (zi_cons zw_190 zi_nil) (zi_app inX7 zi_nil))
set_option maxHeartbeats 4000000 in
set_option maxRecDepth 100000 in
theorem k174_X7_valueOf (l : Launch) (D : va_G) (zt : Nat × Nat × Nat × (Nat → Nat) × (Nat → Nat)) (q : Nat → Nat) (d : Nat → ClassId) (I : Nat → Int32) (A : Nat → Nat → Int32) (z1 : Int32) (hIv : IvX I A) : GM l D zt (tyX d) yX7_valueOf wz_k174_X7_valueOf ({ frames := 0, cells := 0, slots := 0, locals := 0 } : Room) [.ref (q 6), .int z1] (wX q d I A) (fun v _ w' => ∃ y0 : Int32, FE (fX7_valueOf I A z1) y0 ∧ v = some (.int y0) ∧ w' = wX q d I A) 0 0 := by
  refine GM.of (cc := cX7_valueOf) (maxL := 2) (ret := (some .int)) (own := RX7) (lv := [(0, .ref (q 6)), (1, .int z1)]) (by decide) rfl rfl (Nat.le_of_ble_eq_true rfl) rfl (fun κ sz hk hR hN => ?_)
  have hin7 : ∀ w ∈ u_ws RX7 TX7 1, w ∈ wz_k174_X7_valueOf := fun w h => (List.mem_cons_of_mem _ (List.mem_append_right _ (List.mem_append_left _ h)))
  have hF : FE (fX7_valueOf I A z1) (fX7_valueOf I A z1) := FE.rf
  refine g_iload_n hk dX7_valueOf_0 rfl ?_
  have b1963l := Int32.le_toInt z1
  have b1963h := Int32.toInt_lt z1
  refine g_if_lt (tgt := 22) (a := z1.toInt) hk dX7_valueOf_1 (by decide) rfl (fun c1964 => ?_) (fun c1964 => ?_)
  · skip
    replace hF := FE.pos hF c1964
    refine g_iconst (v := (-1)) hk dX7_valueOf_22 (by decide) ?_
    exact g_iret hk hR rfl ⟨(-1), hF, rfl, rfl⟩ dX7_valueOf_23
  · skip
    replace hF := FE.neg hF c1964
    refine g_iload_n hk dX7_valueOf_4 rfl ?_
    refine g_aload_n hk dX7_valueOf_5 rfl ?_
    refine gX_r6_0 hk hin7 (List.mem_cons_of_mem _ (List.mem_append_left _ (List.mem_of_getElem? (i := 0) rfl))) dX7_valueOf_6 ?_
    refine nX_2 hk dX7_valueOf_9 ?_
    refine g_icmp_ge (tgt := 22) (a := z1.toInt) (b := 4) hk dX7_valueOf_10 (by decide) rfl rfl (fun c1965 => ?_) (fun c1965 => ?_)
    · skip
      replace hF := FE.pos hF c1965
      refine g_iconst (v := (-1)) hk dX7_valueOf_22 (by decide) ?_
      exact g_iret hk hR rfl ⟨(-1), hF, rfl, rfl⟩ dX7_valueOf_23
    · skip
      replace hF := FE.neg hF c1965
      refine g_aload_n hk dX7_valueOf_13 rfl ?_
      refine gX_r6_0 hk hin7 (List.mem_cons_of_mem _ (List.mem_append_left _ (List.mem_of_getElem? (i := 0) rfl))) dX7_valueOf_14 ?_
      refine g_iload_n hk dX7_valueOf_17 rfl ?_
      refine lX_2 (v := (A 2 z1.toNatClampNeg)) hk (vp_in_iff.mpr ⟨by omega, by omega⟩) rfl dX7_valueOf_18 ?_
      refine g_goto (tgt := 23) hk dX7_valueOf_19 (by decide) ?_
      have b1966l := Int32.le_toInt (A 2 z1.toNatClampNeg)
      have b1966h := Int32.toInt_lt (A 2 z1.toNatClampNeg)
      exact g_iret hk hR rfl ⟨(A 2 z1.toNatClampNeg), hF, rfl, rfl⟩ dX7_valueOf_23
noncomputable def bX7_takeFrom_2 : (Int32 → (Nat → Int32) → (Nat → Nat → Int32) → (Int32 × (Nat → Int32) × (Nat → Nat → Int32))) → Int32 → (Nat → Int32) → (Nat → Nat → Int32) → (Int32 × (Nat → Int32) × (Nat → Nat → Int32)) := fun kk1983 x1959 I1962 A1962 => if 4 ≤ x1959.toInt then (0, I1962, A1962) else f_lt (fX7_valueOf I1962 A1962 x1959) fun y1986 => f_lt (x1959 + Int32.ofInt 1) fun y1987 => kk1983 y1987 I1962 (up3 A1962 10 (x1959.toNatClampNeg) y1986)
noncomputable def fX7_takeFrom (I : Nat → Int32) (A : Nat → Nat → Int32) : Int32 × (Nat → Int32) × (Nat → Nat → Int32) := itr_iIA dfX (bX7_takeFrom_2) FU 0 I A
def wo_k173_X7_takeFrom : List Cond := [Cond.fieldLink RX7 20 "WarpDesk$Settings" "values" "[I", Cond.methodLink RX7 33 yX7_valueOf, Cond.instanceMethod yX7_valueOf, Cond.selects RX7 yX7_valueOf yX7_valueOf, Cond.initialized RX7]
def wz_k173_X7_takeFrom : List Cond := .code yX7_takeFrom cX7_takeFrom 3 none :: (wo_k173_X7_takeFrom ++ (wsX70 ++ (wz_k174_X7_valueOf ++ ([] : List Cond))))
theorem zg_k173_X7_takeFrom : ∀ w ∈ wz_k173_X7_takeFrom, goodWord w = true := zg_cons rfl (zg_app (by decide +kernel) (zg_app zgU_wsX70 (zg_app zg_k174_X7_valueOf zg_nil)))
theorem zi_k173_X7_takeFrom : ∀ w ∈ wz_k173_X7_takeFrom, w ∈ lw_tbl := zi_cons zw_784 (zi_app (zi_cons zw_190 (zi_cons zw_785 (zi_cons zw_786 (zi_cons zw_787 (zi_cons zw_107 zi_nil))))) (zi_app inX7 (zi_app zi_k174_X7_valueOf zi_nil)))
set_option maxHeartbeats 4000000 in
set_option maxRecDepth 100000 in
theorem k173_X7_takeFrom (l : Launch) (D : va_G) (zt : Nat × Nat × Nat × (Nat → Nat) × (Nat → Nat)) (q : Nat → Nat) (d : Nat → ClassId) (I : Nat → Int32) (A : Nat → Nat → Int32) (hIv : IvX I A) : GM l D zt (tyX d) yX7_takeFrom wz_k173_X7_takeFrom ({ frames := 1, cells := 0, slots := 0, locals := 21 } : Room) [.ref (q 18), .ref (q 6)] (wX q d I A) (fun v _ w' => ∃ (I' : Nat → Int32) (A' : Nat → Nat → Int32), Md [] I I' ∧ Md [10] A A' ∧ IvX I' A' ∧ FE (fX7_takeFrom I A) (0, I', A') ∧ v = none ∧ w' = wX q d I' A') 0 0 := by
  refine GM.of (cc := cX7_takeFrom) (maxL := 3) (ret := none) (own := RX7) (lv := [(0, .ref (q 18)), (1, .ref (q 6))]) (by decide) rfl rfl (Nat.le_of_ble_eq_true rfl) rfl (fun κ sz hk hR hN => ?_)
  have hin7 : ∀ w ∈ u_ws RX7 TX7 1, w ∈ wz_k173_X7_takeFrom := fun w h => (List.mem_cons_of_mem _ (List.mem_append_right _ (List.mem_append_left _ h)))
  have hF : FE (fX7_takeFrom I A) (fX7_takeFrom I A) := FE.rf
  refine g_iconst (v := 0) hk dX7_takeFrom_0 (by decide) ?_
  refine g_istore_n (lv' := [(2, .int 0), (0, .ref (q 18)), (1, .ref (q 6))]) hk dX7_takeFrom_1 (by decide) rfl ?_
  have lp1980 : ∀ (n1981 : Nat) (x1959 : Int32) (I1962 : Nat → Int32) (A1962 : Nat → Nat → Int32), (Md [] I I1962) → (Md [10] A A1962) → (IvX I1962 A1962) → (0 ≤ x1959.toInt) → (x1959.toInt ≤ 4) → (5 - x1959.toInt < (n1981 : Int)) → (0 < n1981) → (FE (fX7_takeFrom I A) (itr_iIA dfX (bX7_takeFrom_2) n1981 x1959 I1962 A1962)) → GW κ 3 0 0 (wX q d I1962 A1962) 2 [(2, .int x1959), (0, .ref (q 18)), (1, .ref (q 6))] [] := by
    intro n1981
    induction n1981 with
    | zero =>
      intro x1959 I1962 A1962 hI1962 hA1962 hV1962 h1978 h1979 m1982 m1982z hF
      exact absurd m1982z (Nat.lt_irrefl 0)
    | succ n1981 ih1984 =>
      intro x1959 I1962 A1962 hI1962 hA1962 hV1962 h1978 h1979 m1982 m1982z hF
      replace hF := FE.itr_iIA hF
      refine g_iload_n hk dX7_takeFrom_2 rfl ?_
      refine g_aload_n hk dX7_takeFrom_3 rfl ?_
      refine gX_r18_0 hk hin7 (List.mem_cons_of_mem _ (List.mem_append_left _ (List.mem_of_getElem? (i := 0) rfl))) dX7_takeFrom_4 ?_
      refine nX_10 hk dX7_takeFrom_7 ?_
      refine g_icmp_ge (tgt := 28) (a := x1959.toInt) (b := 4) hk dX7_takeFrom_8 (by decide) rfl rfl (fun c1985 => ?_) (fun c1985 => ?_)
      · skip
        replace hF := FE.pos hF c1985
        exact g_vret hk hR ⟨I1962, A1962, (show Md [] I I1962 from (Md.tr Md.rf hI1962 rfl)), (show Md [10] A A1962 from (Md.tr Md.rf hA1962 rfl)), hV1962, hF, rfl, rfl⟩ dX7_takeFrom_28
      · skip
        replace hF := FE.neg hF c1985
        refine g_aload_n hk dX7_takeFrom_11 rfl ?_
        refine gX_r18_0 hk hin7 (List.mem_cons_of_mem _ (List.mem_append_left _ (List.mem_of_getElem? (i := 0) rfl))) dX7_takeFrom_12 ?_
        refine g_iload_n hk dX7_takeFrom_15 rfl ?_
        refine g_aload_n hk dX7_takeFrom_16 rfl ?_
        refine g_iload_n hk dX7_takeFrom_17 rfl ?_
        refine g_callV (n := 1) hk (k174_X7_valueOf l D zt q d I1962 A1962 x1959 hV1962) (SP.same _) (fun _ h => h) (gi_V (List.mem_cons_of_mem _ (List.mem_append_left _ (List.mem_of_getElem? (i := 1) rfl))) (List.mem_cons_of_mem _ (List.mem_append_left _ (List.mem_of_getElem? (i := 2) rfl))) (List.mem_cons_of_mem _ (List.mem_append_left _ (List.mem_of_getElem? (i := 3) rfl))) (List.mem_cons_of_mem _ (List.mem_append_left _ (List.mem_of_getElem? (i := 4) rfl))) (gi_sub (fun w h => (List.mem_cons_of_mem _ (List.mem_append_right _ (List.mem_append_right _ (List.mem_append_left _ h))))) zg_k174_X7_valueOf)) rfl rfl rfl (by decide +kernel) ⟨Nat.le_of_ble_eq_true rfl, Nat.le_of_ble_eq_true rfl⟩ 6 rfl rfl rfl rfl (Nat.le_of_ble_eq_true rfl) ⟨Nat.le_of_ble_eq_true rfl, Nat.le_of_ble_eq_true rfl⟩ dX7_takeFrom_18 (fun v ty' w' hp hk' => ?_)
        obtain ⟨y1986, hC, rfl, rfl⟩ := hp
        replace hF := FE.lt hF (fe_s hC)
        show GW κ 3 0 0 (wX q d I1962 A1962) 21 [(2, .int x1959), (0, .ref (q 18)), (1, .ref (q 6))] [.int y1986, .int x1959, .ref (q 19)]
        refine sX_10 (j := x1959.toNatClampNeg) hk (vp_in_iff.mpr ⟨by omega, by omega⟩) rfl dX7_takeFrom_21 ?_
        obtain ⟨y1987, ey1987⟩ : ∃ y : Int32, y = x1959 + Int32.ofInt 1 := ⟨_, rfl⟩
        replace hF := FE.lt hF ey1987
        have hy1987 : y1987.toInt = x1959.toInt + 1 := i32_add ey1987 rfl (by decide) (by omega) (by omega)
        refine g_iinc (v := y1987) (lv' := [(2, .int y1987), (0, .ref (q 18)), (1, .ref (q 6))]) hk 0 dX7_takeFrom_22 rfl ey1987.symm (by decide) rfl ?_
        refine g_goto (tgt := 2) hk dX7_takeFrom_25 (by decide) ?_
        exact g_lv (List.forall_mem_cons.mpr ⟨List.mem_of_getElem? (i := 0) rfl, (List.forall_mem_cons.mpr ⟨List.mem_of_getElem? (i := 1) rfl, (List.forall_mem_cons.mpr ⟨List.mem_of_getElem? (i := 2) rfl, (fun _ h => absurd h List.not_mem_nil)⟩)⟩)⟩) (ih1984 y1987 I1962 (up3 A1962 10 (x1959.toNatClampNeg) y1986) (show Md [] I I1962 from Md.tr hI1962 (show Md [] I1962 I1962 from Md.rf) rfl) (show Md [10] A (up3 A1962 10 (x1959.toNatClampNeg) y1986) from Md.tr hA1962 (show Md [10] A1962 (up3 A1962 10 (x1959.toNatClampNeg) y1986) from (Md.up3 Md.rf rfl)) rfl) ⟨(IvX_f0 (I := I1962) (A := A1962) hV1962), (IvX_f18 (I := I1962) (A := A1962) hV1962), (IvX_f30 (I := I1962) (A := A1962) hV1962), (IvX_f31 (I := I1962) (A := A1962) hV1962), (IvX_a4 (I := I1962) (A := A1962) hV1962), (IvX_a9 (I := I1962) (A := A1962) hV1962), trivial⟩ (by omega) (by omega) (by omega) (by omega) hF)
  have k1989 : (0 : Int32).toInt = 0 := rfl
  have n1988a : 5 - 0 < (FU : Int) := by have := FU_eq; omega
  have n1988b : 0 < FU := by have := FU_eq; omega
  exact lp1980 FU 0 I A Md.rf Md.rf hIv (by omega) (by omega) n1988a n1988b hF
noncomputable def fX3_forget (I : Nat → Int32) (A : Nat → Nat → Int32) : Int32 × (Nat → Int32) × (Nat → Nat → Int32) := (0, (upd I 21 0), A)
def wo_k175_X3_forget : List Cond := [Cond.fieldLink RX3 19 "WarpDesk$Past" "size" "I"]
def wz_k175_X3_forget : List Cond := .code yX3_forget cX3_forget 1 none :: (wo_k175_X3_forget ++ (wsX30 ++ ([] : List Cond)))
theorem zg_k175_X3_forget : ∀ w ∈ wz_k175_X3_forget, goodWord w = true := zg_cons rfl (zg_app (by decide +kernel) (zg_app zgU_wsX30 zg_nil))
theorem zi_k175_X3_forget : ∀ w ∈ wz_k175_X3_forget, w ∈ lw_tbl := zi_cons zw_792 (zi_app (zi_cons zw_306 zi_nil) (zi_app inX3 zi_nil))
set_option maxHeartbeats 4000000 in
set_option maxRecDepth 100000 in
theorem k175_X3_forget (l : Launch) (D : va_G) (zt : Nat × Nat × Nat × (Nat → Nat) × (Nat → Nat)) (q : Nat → Nat) (d : Nat → ClassId) (I : Nat → Int32) (A : Nat → Nat → Int32) (hIv : IvX I A) : GM l D zt (tyX d) yX3_forget wz_k175_X3_forget ({ frames := 0, cells := 0, slots := 0, locals := 0 } : Room) [.ref (q 20)] (wX q d I A) (fun v _ w' => ∃ (I' : Nat → Int32) (A' : Nat → Nat → Int32), Md [21] I I' ∧ Md [] A A' ∧ IvX I' A' ∧ FE (fX3_forget I A) (0, I', A') ∧ v = none ∧ w' = wX q d I' A') 0 0 := by
  refine GM.of (cc := cX3_forget) (maxL := 1) (ret := none) (own := RX3) (lv := [(0, .ref (q 20))]) (by decide) rfl rfl (Nat.le_of_ble_eq_true rfl) rfl (fun κ sz hk hR hN => ?_)
  have hin3 : ∀ w ∈ u_ws RX3 TX3 5, w ∈ wz_k175_X3_forget := fun w h => (List.mem_cons_of_mem _ (List.mem_append_right _ (List.mem_append_left _ h)))
  have hF : FE (fX3_forget I A) (fX3_forget I A) := FE.rf
  refine g_aload_n hk dX3_forget_0 rfl ?_
  refine g_iconst (v := 0) hk dX3_forget_1 (by decide) ?_
  refine pX_i21 hk hin3 (List.mem_cons_of_mem _ (List.mem_append_left _ (List.mem_of_getElem? (i := 0) rfl))) dX3_forget_2 ?_
  exact g_vret hk hR ⟨(upd I 21 0), A, (show Md [21] I (upd I 21 0) from (Md.up Md.rf rfl)), (show Md [] A A from Md.rf), ⟨(IvX_f0 (I := I) (A := A) hIv), (IvX_f18 (I := I) (A := A) hIv), (IvX_f30 (I := I) (A := A) hIv), (IvX_f31 (I := I) (A := A) hIv), (IvX_a4 (I := I) (A := A) hIv), (IvX_a9 (I := I) (A := A) hIv), trivial⟩, hF, rfl, rfl⟩ dX3_forget_5
noncomputable def fX11_goOnFrom (I : Nat → Int32) (A : Nat → Nat → Int32) : Int32 × (Nat → Int32) × (Nat → Nat → Int32) := f_bdX (fX6_takeFrom I A) fun _ I1958 A1958 => f_bdX (fX7_takeFrom I1958 A1958) fun _ I1991 A1991 => f_bdX (fX3_forget I1991 A1991) fun _ I1993 A1993 => (0, I1993, A1993)
def wo_k169_X11_goOnFrom : List Cond := [Cond.fieldLink RX11 28 "WarpDesk" "series" "LWarpDesk$Series;", Cond.methodLink RX11 369 yX6_takeFrom, Cond.instanceMethod yX6_takeFrom, Cond.selects RX6 yX6_takeFrom yX6_takeFrom, Cond.initialized RX6, Cond.fieldLink RX11 42 "WarpDesk" "settings" "LWarpDesk$Settings;", Cond.fieldLink RX11 365 "WarpDesk$Stand" "settings" "LWarpDesk$Settings;", Cond.methodLink RX11 366 yX7_takeFrom, Cond.instanceMethod yX7_takeFrom, Cond.selects RX7 yX7_takeFrom yX7_takeFrom, Cond.initialized RX7, Cond.fieldLink RX11 49 "WarpDesk" "past" "LWarpDesk$Past;", Cond.methodLink RX11 371 yX3_forget, Cond.instanceMethod yX3_forget, Cond.selects RX3 yX3_forget yX3_forget, Cond.initialized RX3]
def wz_k169_X11_goOnFrom : List Cond := .code yX11_goOnFrom cX11_goOnFrom 2 none :: (wo_k169_X11_goOnFrom ++ (wsX80 ++ (wsX110 ++ (wz_k170_X6_takeFrom ++ (wz_k173_X7_takeFrom ++ (wz_k175_X3_forget ++ ([] : List Cond)))))))
theorem zg_k169_X11_goOnFrom : ∀ w ∈ wz_k169_X11_goOnFrom, goodWord w = true := zg_cons rfl (zg_app (by decide +kernel) (zg_app zgU_wsX80 (zg_app zgU_wsX110 (zg_app zg_k170_X6_takeFrom (zg_app zg_k173_X7_takeFrom (zg_app zg_k175_X3_forget zg_nil))))))
theorem zi_k169_X11_goOnFrom : ∀ w ∈ wz_k169_X11_goOnFrom, w ∈ lw_tbl := zi_cons zw_768 (zi_app (zi_cons zw_489 (zi_cons zw_769 (zi_cons zw_770 (zi_cons zw_771 (zi_cons zw_109 (zi_cons zw_491 (zi_cons zw_200 (zi_cons zw_781 (zi_cons zw_782 (zi_cons zw_783 (zi_cons zw_107 (zi_cons zw_492 (zi_cons zw_789 (zi_cons zw_790 (zi_cons zw_791 (zi_cons zw_110 zi_nil)))))))))))))))) (zi_app inX8 (zi_app inX11 (zi_app zi_k170_X6_takeFrom (zi_app zi_k173_X7_takeFrom (zi_app zi_k175_X3_forget zi_nil))))))
set_option maxHeartbeats 4000000 in
set_option maxRecDepth 100000 in
theorem k169_X11_goOnFrom (l : Launch) (D : va_G) (zt : Nat × Nat × Nat × (Nat → Nat) × (Nat → Nat)) (q : Nat → Nat) (d : Nat → ClassId) (I : Nat → Int32) (A : Nat → Nat → Int32) (hIv : IvX I A) : GM l D zt (tyX d) yX11_goOnFrom wz_k169_X11_goOnFrom ({ frames := 2, cells := 0, slots := 0, locals := 43 } : Room) [.ref (q 0), .ref (q 4)] (wX q d I A) (fun v _ w' => ∃ (I' : Nat → Int32) (A' : Nat → Nat → Int32), Md [17, 18, 21] I I' ∧ Md [7, 10] A A' ∧ IvX I' A' ∧ FE (fX11_goOnFrom I A) (0, I', A') ∧ v = none ∧ w' = wX q d I' A') 0 0 := by
  refine GM.of (cc := cX11_goOnFrom) (maxL := 2) (ret := none) (own := RX11) (lv := [(0, .ref (q 0)), (1, .ref (q 4))]) (by decide) rfl rfl (Nat.le_of_ble_eq_true rfl) rfl (fun κ sz hk hR hN => ?_)
  have hin8 : ∀ w ∈ u_ws RX8 TX8 4, w ∈ wz_k169_X11_goOnFrom := fun w h => (List.mem_cons_of_mem _ (List.mem_append_right _ (List.mem_append_left _ h)))
  have hin11 : ∀ w ∈ u_ws RX11 TX11 10, w ∈ wz_k169_X11_goOnFrom := fun w h => (List.mem_cons_of_mem _ (List.mem_append_right _ (List.mem_append_right _ (List.mem_append_left _ h))))
  have hF : FE (fX11_goOnFrom I A) (fX11_goOnFrom I A) := FE.rf
  refine g_aload_n hk dX11_goOnFrom_0 rfl ?_
  refine gX_r0_2 hk hin11 (List.mem_cons_of_mem _ (List.mem_append_left _ (List.mem_of_getElem? (i := 0) rfl))) dX11_goOnFrom_1 ?_
  refine g_aload_n hk dX11_goOnFrom_4 rfl ?_
  refine g_callV (n := 1) hk (k170_X6_takeFrom l D zt q d I A  hIv) (SP.same _) (fun _ h => h) (gi_V (List.mem_cons_of_mem _ (List.mem_append_left _ (List.mem_of_getElem? (i := 1) rfl))) (List.mem_cons_of_mem _ (List.mem_append_left _ (List.mem_of_getElem? (i := 2) rfl))) (List.mem_cons_of_mem _ (List.mem_append_left _ (List.mem_of_getElem? (i := 3) rfl))) (List.mem_cons_of_mem _ (List.mem_append_left _ (List.mem_of_getElem? (i := 4) rfl))) (gi_sub (fun w h => (List.mem_cons_of_mem _ (List.mem_append_right _ (List.mem_append_right _ (List.mem_append_right _ (List.mem_append_left _ h)))))) zg_k170_X6_takeFrom)) rfl rfl rfl (by decide +kernel) ⟨Nat.le_of_ble_eq_true rfl, Nat.le_of_ble_eq_true rfl⟩ 13 rfl rfl rfl rfl (Nat.le_of_ble_eq_true rfl) ⟨Nat.le_of_ble_eq_true rfl, Nat.le_of_ble_eq_true rfl⟩ dX11_goOnFrom_5 (fun v ty' w' hp hk' => ?_)
  obtain ⟨I1958, A1958, hI1958, hA1958, hV1958, hC, rfl, rfl⟩ := hp
  replace hF := FE.bdX hF hC
  show GW κ 2 0 0 (wX q d I1958 A1958) 8 [(0, .ref (q 0)), (1, .ref (q 4))] []
  refine g_aload_n hk dX11_goOnFrom_8 rfl ?_
  refine gX_r0_4 hk hin11 (List.mem_cons_of_mem _ (List.mem_append_left _ (List.mem_of_getElem? (i := 5) rfl))) dX11_goOnFrom_9 ?_
  refine g_aload_n hk dX11_goOnFrom_12 rfl ?_
  refine gX_r4_2 hk hin8 (List.mem_cons_of_mem _ (List.mem_append_left _ (List.mem_of_getElem? (i := 6) rfl))) dX11_goOnFrom_13 ?_
  refine g_callV (n := 1) hk (k173_X7_takeFrom l D zt q d I1958 A1958  hV1958) (SP.same _) (fun _ h => h) (gi_V (List.mem_cons_of_mem _ (List.mem_append_left _ (List.mem_of_getElem? (i := 7) rfl))) (List.mem_cons_of_mem _ (List.mem_append_left _ (List.mem_of_getElem? (i := 8) rfl))) (List.mem_cons_of_mem _ (List.mem_append_left _ (List.mem_of_getElem? (i := 9) rfl))) (List.mem_cons_of_mem _ (List.mem_append_left _ (List.mem_of_getElem? (i := 10) rfl))) (gi_sub (fun w h => (List.mem_cons_of_mem _ (List.mem_append_right _ (List.mem_append_right _ (List.mem_append_right _ (List.mem_append_right _ (List.mem_append_left _ h))))))) zg_k173_X7_takeFrom)) rfl rfl rfl (by decide +kernel) ⟨Nat.le_of_ble_eq_true rfl, Nat.le_of_ble_eq_true rfl⟩ 18 rfl rfl rfl rfl (Nat.le_of_ble_eq_true rfl) ⟨Nat.le_of_ble_eq_true rfl, Nat.le_of_ble_eq_true rfl⟩ dX11_goOnFrom_16 (fun v ty' w' hp hk' => ?_)
  obtain ⟨I1991, A1991, hI1991, hA1991, hV1991, hC, rfl, rfl⟩ := hp
  replace hF := FE.bdX hF hC
  show GW κ 2 0 0 (wX q d I1991 A1991) 19 [(0, .ref (q 0)), (1, .ref (q 4))] []
  refine g_aload_n hk dX11_goOnFrom_19 rfl ?_
  refine gX_r0_5 hk hin11 (List.mem_cons_of_mem _ (List.mem_append_left _ (List.mem_of_getElem? (i := 11) rfl))) dX11_goOnFrom_20 ?_
  refine g_callV (n := 0) hk (k175_X3_forget l D zt q d I1991 A1991  hV1991) (SP.same _) (fun _ h => h) (gi_V (List.mem_cons_of_mem _ (List.mem_append_left _ (List.mem_of_getElem? (i := 12) rfl))) (List.mem_cons_of_mem _ (List.mem_append_left _ (List.mem_of_getElem? (i := 13) rfl))) (List.mem_cons_of_mem _ (List.mem_append_left _ (List.mem_of_getElem? (i := 14) rfl))) (List.mem_cons_of_mem _ (List.mem_append_left _ (List.mem_of_getElem? (i := 15) rfl))) (gi_sub (fun w h => (List.mem_cons_of_mem _ (List.mem_append_right _ (List.mem_append_right _ (List.mem_append_right _ (List.mem_append_right _ (List.mem_append_right _ (List.mem_append_left _ h)))))))) zg_k175_X3_forget)) rfl rfl rfl (by decide +kernel) ⟨Nat.le_of_ble_eq_true rfl, Nat.le_of_ble_eq_true rfl⟩ 20 rfl rfl rfl rfl (Nat.le_of_ble_eq_true rfl) ⟨Nat.le_of_ble_eq_true rfl, Nat.le_of_ble_eq_true rfl⟩ dX11_goOnFrom_23 (fun v ty' w' hp hk' => ?_)
  obtain ⟨I1993, A1993, hI1993, hA1993, hV1993, hC, rfl, rfl⟩ := hp
  replace hF := FE.bdX hF hC
  show GW κ 2 0 0 (wX q d I1993 A1993) 26 [(0, .ref (q 0)), (1, .ref (q 4))] []
  exact g_vret hk hR ⟨I1993, A1993, (show Md [17, 18, 21] I I1993 from (Md.tr (Md.tr (Md.tr Md.rf hI1958 rfl) hI1991 rfl) hI1993 rfl)), (show Md [7, 10] A A1993 from (Md.tr (Md.tr (Md.tr Md.rf hA1958 rfl) hA1991 rfl) hA1993 rfl)), hV1993, hF, rfl, rfl⟩ dX11_goOnFrom_26
noncomputable def bX11_read_47 (y1409 : Int32) : (Int32 → (Nat → Int32) → (Nat → Nat → Int32) → (Int32 × (Nat → Int32) × (Nat → Nat → Int32))) → Int32 → (Nat → Int32) → (Nat → Nat → Int32) → (Int32 × (Nat → Int32) × (Nat → Nat → Int32)) := fun kk2014 x1996 I1999 A1999 => if 3 ≤ x1996.toInt then (y1409, I1999, A1999) else if x1996.toInt = 0 then kk2014 1 (upd I1999 23 0) A1999 else if x1996.toInt = 1 then kk2014 2 (upd I1999 25 0) A1999 else if x1996.toInt = 2 then kk2014 3 (upd I1999 27 0) A1999 else dfX
noncomputable def fX11_read (I : Nat → Int32) (A : Nat → Nat → Int32) : Int32 × (Nat → Int32) × (Nat → Nat → Int32) := f_bdX (fX5_readText I A) fun y1409 I1410 A1410 => if y1409.toInt ≠ 0 then (y1409, (upd I1410 0 0), A1410) else f_bdX (fX4_takeFrom (upd I1410 0 0) A1410) fun _ I1895 A1895 => f_bdX (fX11_goOnFrom I1895 A1895) fun _ I1995 A1995 => itr_iIA dfX (bX11_read_47 y1409) FU 0 I1995 A1995
def wo_k116_X11_read : List Cond := [Cond.fieldLink RX11 21 "WarpDesk" "reader" "LWarpDesk$Reader;", Cond.methodLink RX11 93 yX5_readText, Cond.instanceMethod yX5_readText, Cond.selects RX5 yX5_readText yX5_readText, Cond.initialized RX5, Cond.fieldLink RX11 10 "WarpDesk" "tape" "LWarpDesk$Tape;", Cond.fieldLink RX11 85 "WarpDesk$Tape" "size" "I", Cond.fieldLink RX11 35 "WarpDesk" "queries" "LWarpDesk$Queries;", Cond.fieldLink RX11 97 "WarpDesk$Reader" "queries" "LWarpDesk$Queries;", Cond.methodLink RX11 98 yX4_takeFrom, Cond.instanceMethod yX4_takeFrom, Cond.selects RX4 yX4_takeFrom yX4_takeFrom, Cond.initialized RX4, Cond.fieldLink RX11 102 "WarpDesk$Reader" "draft" "LWarpDesk$Stand;", Cond.methodLink RX11 106 yX11_goOnFrom, Cond.instanceMethod yX11_goOnFrom, Cond.selects RX11 yX11_goOnFrom yX11_goOnFrom, Cond.initialized RX11, Cond.fieldLink RX11 56 "WarpDesk" "slots" "[LWarpDesk$Stand;", Cond.fieldLink RX11 110 "WarpDesk$Stand" "held" "Z"]
def wz_k116_X11_read : List Cond := .code yX11_read cX11_read 3 (some .int) :: (wo_k116_X11_read ++ (wsX50 ++ (wsX80 ++ (wsX100 ++ (wsX110 ++ (wz_k117_X5_readText ++ (wz_k163_X4_takeFrom ++ (wz_k169_X11_goOnFrom ++ ([] : List Cond)))))))))
theorem zg_k116_X11_read : ∀ w ∈ wz_k116_X11_read, goodWord w = true := zg_cons rfl (zg_app (by decide +kernel) (zg_app zgU_wsX50 (zg_app zgU_wsX80 (zg_app zgU_wsX100 (zg_app zgU_wsX110 (zg_app zg_k117_X5_readText (zg_app zg_k163_X4_takeFrom (zg_app zg_k169_X11_goOnFrom zg_nil))))))))
theorem zi_k116_X11_read : ∀ w ∈ wz_k116_X11_read, w ∈ lw_tbl := zi_cons zw_533 (zi_app (zi_cons zw_488 (zi_cons zw_534 (zi_cons zw_535 (zi_cons zw_536 (zi_cons zw_105 (zi_cons zw_487 (zi_cons zw_136 (zi_cons zw_490 (zi_cons zw_234 (zi_cons zw_751 (zi_cons zw_752 (zi_cons zw_753 (zi_cons zw_108 (zi_cons zw_232 (zi_cons zw_765 (zi_cons zw_767 (zi_cons zw_22 (zi_cons zw_103 (zi_cons zw_493 (zi_cons zw_201 zi_nil)))))))))))))))))))) (zi_app inX5 (zi_app inX8 (zi_app inX10 (zi_app inX11 (zi_app zi_k117_X5_readText (zi_app zi_k163_X4_takeFrom (zi_app zi_k169_X11_goOnFrom zi_nil))))))))
set_option maxHeartbeats 4000000 in
set_option maxRecDepth 100000 in
theorem k116_X11_read (l : Launch) (D : va_G) (zt : Nat × Nat × Nat × (Nat → Nat) × (Nat → Nat)) (q : Nat → Nat) (d : Nat → ClassId) (I : Nat → Int32) (A : Nat → Nat → Int32) (hIv : IvX I A) : GM l D zt (tyX d) yX11_read wz_k116_X11_read ({ frames := 9, cells := 0, slots := 0, locals := 189 } : Room) [.ref (q 0)] (wX q d I A) (fun v _ w' => ∃ (I' : Nat → Int32) (A' : Nat → Nat → Int32), Md [0, 1, 2, 3, 4, 5, 6, 7, 8, 9, 10, 11, 12, 13, 14, 16, 17, 18, 19, 21, 23, 25, 27] I I' ∧ Md [1, 2, 3, 4, 5, 6, 7, 8, 9, 10] A A' ∧ IvX I' A' ∧ ∃ y0 : Int32, ((I' 0).toInt = 0) ∧ FE (fX11_read I A) (y0, I', A') ∧ v = some (.int y0) ∧ w' = wX q d I' A') 0 0 := by
  refine GM.of (cc := cX11_read) (maxL := 3) (ret := (some .int)) (own := RX11) (lv := [(0, .ref (q 0))]) (by decide) rfl rfl (Nat.le_of_ble_eq_true rfl) rfl (fun κ sz hk hR hN => ?_)
  have hin5 : ∀ w ∈ u_ws RX5 TX5 13, w ∈ wz_k116_X11_read := fun w h => (List.mem_cons_of_mem _ (List.mem_append_right _ (List.mem_append_left _ h)))
  have hin8 : ∀ w ∈ u_ws RX8 TX8 4, w ∈ wz_k116_X11_read := fun w h => (List.mem_cons_of_mem _ (List.mem_append_right _ (List.mem_append_right _ (List.mem_append_left _ h))))
  have hin10 : ∀ w ∈ u_ws RX10 TX10 7, w ∈ wz_k116_X11_read := fun w h => (List.mem_cons_of_mem _ (List.mem_append_right _ (List.mem_append_right _ (List.mem_append_right _ (List.mem_append_left _ h)))))
  have hin11 : ∀ w ∈ u_ws RX11 TX11 10, w ∈ wz_k116_X11_read := fun w h => (List.mem_cons_of_mem _ (List.mem_append_right _ (List.mem_append_right _ (List.mem_append_right _ (List.mem_append_right _ (List.mem_append_left _ h))))))
  have hF : FE (fX11_read I A) (fX11_read I A) := FE.rf
  refine g_aload_n hk dX11_read_0 rfl ?_
  refine gX_r0_1 hk hin11 (List.mem_cons_of_mem _ (List.mem_append_left _ (List.mem_of_getElem? (i := 0) rfl))) dX11_read_1 ?_
  refine g_callV (n := 0) hk (k117_X5_readText l D zt q d I A  hIv) (SP.same _) (fun _ h => h) (gi_V (List.mem_cons_of_mem _ (List.mem_append_left _ (List.mem_of_getElem? (i := 1) rfl))) (List.mem_cons_of_mem _ (List.mem_append_left _ (List.mem_of_getElem? (i := 2) rfl))) (List.mem_cons_of_mem _ (List.mem_append_left _ (List.mem_of_getElem? (i := 3) rfl))) (List.mem_cons_of_mem _ (List.mem_append_left _ (List.mem_of_getElem? (i := 4) rfl))) (gi_sub (fun w h => (List.mem_cons_of_mem _ (List.mem_append_right _ (List.mem_append_right _ (List.mem_append_right _ (List.mem_append_right _ (List.mem_append_right _ (List.mem_append_left _ h)))))))) zg_k117_X5_readText)) rfl rfl rfl (by decide +kernel) ⟨Nat.le_of_ble_eq_true rfl, Nat.le_of_ble_eq_true rfl⟩ 3 rfl rfl rfl rfl (Nat.le_of_ble_eq_true rfl) ⟨Nat.le_of_ble_eq_true rfl, Nat.le_of_ble_eq_true rfl⟩ dX11_read_4 (fun v ty' w' hp hk' => ?_)
  obtain ⟨I1410, A1410, hI1410, hA1410, hV1410, y1409, hC, rfl, rfl⟩ := hp
  replace hF := FE.bdX hF hC
  show GW κ 3 0 0 (wX q d I1410 A1410) 7 [(0, .ref (q 0))] [.int y1409]
  refine g_istore_n (lv' := [(1, .int y1409), (0, .ref (q 0))]) hk dX11_read_7 (by decide) rfl ?_
  refine g_aload_n hk dX11_read_8 rfl ?_
  refine gX_r0_0 hk hin11 (List.mem_cons_of_mem _ (List.mem_append_left _ (List.mem_of_getElem? (i := 5) rfl))) dX11_read_9 ?_
  refine g_iconst (v := 0) hk dX11_read_12 (by decide) ?_
  refine pX_i0 hk hin10 (List.mem_cons_of_mem _ (List.mem_append_left _ (List.mem_of_getElem? (i := 6) rfl))) dX11_read_13 ?_
  refine g_iload_n hk dX11_read_16 rfl ?_
  have b1411l := Int32.le_toInt y1409
  have b1411h := Int32.toInt_lt y1409
  refine g_if_ne (tgt := 72) (a := y1409.toInt) hk dX11_read_17 (by decide) rfl (fun c1412 => ?_) (fun c1412 => ?_)
  · skip
    replace hF := FE.pos hF c1412
    refine g_iload_n hk dX11_read_72 rfl ?_
    have k1413 : (0 : Int32).toInt = 0 := rfl
    have f1414 := IvX_f0 hIv
    exact g_iret hk hR rfl ⟨(upd I1410 0 0), A1410, (show Md [0, 1, 2, 3, 4, 5, 6, 7, 8, 9, 10, 11, 12, 13, 14, 16, 17, 18, 19, 21, 23, 25, 27] I (upd I1410 0 0) from (Md.up (Md.tr Md.rf hI1410 rfl) rfl)), (show Md [1, 2, 3, 4, 5, 6, 7, 8, 9, 10] A A1410 from (Md.tr Md.rf hA1410 rfl)), ⟨(show 0 ≤ (0 : Int32).toInt ∧ (0 : Int32).toInt ≤ 2000 from ⟨by decide, by decide⟩), (IvX_f18 (I := I1410) (A := A1410) hV1410), (IvX_f30 (I := I1410) (A := A1410) hV1410), (IvX_f31 (I := I1410) (A := A1410) hV1410), (IvX_a4 (I := I1410) (A := A1410) hV1410), (IvX_a9 (I := I1410) (A := A1410) hV1410), trivial⟩, y1409, (show (0 : Int32).toInt = 0 from by omega), hF, rfl, rfl⟩ dX11_read_73
  · skip
    replace hF := FE.neg hF c1412
    refine g_aload_n hk dX11_read_20 rfl ?_
    refine gX_r0_3 hk hin11 (List.mem_cons_of_mem _ (List.mem_append_left _ (List.mem_of_getElem? (i := 7) rfl))) dX11_read_21 ?_
    refine g_aload_n hk dX11_read_24 rfl ?_
    refine gX_r0_1 hk hin11 (List.mem_cons_of_mem _ (List.mem_append_left _ (List.mem_of_getElem? (i := 0) rfl))) dX11_read_25 ?_
    refine gX_r3_2 hk hin5 (List.mem_cons_of_mem _ (List.mem_append_left _ (List.mem_of_getElem? (i := 8) rfl))) dX11_read_28 ?_
    refine g_callV (n := 1) hk (k163_X4_takeFrom l D zt q d (upd I1410 0 0) A1410  ⟨(show 0 ≤ (0 : Int32).toInt ∧ (0 : Int32).toInt ≤ 2000 from ⟨by decide, by decide⟩), (IvX_f18 (I := I1410) (A := A1410) hV1410), (IvX_f30 (I := I1410) (A := A1410) hV1410), (IvX_f31 (I := I1410) (A := A1410) hV1410), (IvX_a4 (I := I1410) (A := A1410) hV1410), (IvX_a9 (I := I1410) (A := A1410) hV1410), trivial⟩) (SP.same _) (fun _ h => h) (gi_V (List.mem_cons_of_mem _ (List.mem_append_left _ (List.mem_of_getElem? (i := 9) rfl))) (List.mem_cons_of_mem _ (List.mem_append_left _ (List.mem_of_getElem? (i := 10) rfl))) (List.mem_cons_of_mem _ (List.mem_append_left _ (List.mem_of_getElem? (i := 11) rfl))) (List.mem_cons_of_mem _ (List.mem_append_left _ (List.mem_of_getElem? (i := 12) rfl))) (gi_sub (fun w h => (List.mem_cons_of_mem _ (List.mem_append_right _ (List.mem_append_right _ (List.mem_append_right _ (List.mem_append_right _ (List.mem_append_right _ (List.mem_append_right _ (List.mem_append_left _ h))))))))) zg_k163_X4_takeFrom)) rfl rfl rfl (by decide +kernel) ⟨Nat.le_of_ble_eq_true rfl, Nat.le_of_ble_eq_true rfl⟩ 15 rfl rfl rfl rfl (Nat.le_of_ble_eq_true rfl) ⟨Nat.le_of_ble_eq_true rfl, Nat.le_of_ble_eq_true rfl⟩ dX11_read_31 (fun v ty' w' hp hk' => ?_)
    obtain ⟨I1895, A1895, hI1895, hA1895, hV1895, hC, rfl, rfl⟩ := hp
    replace hF := FE.bdX hF hC
    show GW κ 3 0 0 (wX q d I1895 A1895) 34 [(1, .int y1409), (0, .ref (q 0))] []
    refine g_aload_n hk dX11_read_34 rfl ?_
    refine g_aload_n hk dX11_read_35 rfl ?_
    refine gX_r0_1 hk hin11 (List.mem_cons_of_mem _ (List.mem_append_left _ (List.mem_of_getElem? (i := 0) rfl))) dX11_read_36 ?_
    refine gX_r3_1 hk hin5 (List.mem_cons_of_mem _ (List.mem_append_left _ (List.mem_of_getElem? (i := 13) rfl))) dX11_read_39 ?_
    refine g_callV (n := 1) hk (k169_X11_goOnFrom l D zt q d I1895 A1895  hV1895) (SP.same _) (fun _ h => h) (gi_V (List.mem_cons_of_mem _ (List.mem_append_left _ (List.mem_of_getElem? (i := 14) rfl))) (List.mem_cons_of_mem _ (List.mem_append_left _ (List.mem_of_getElem? (i := 15) rfl))) (List.mem_cons_of_mem _ (List.mem_append_left _ (List.mem_of_getElem? (i := 16) rfl))) (List.mem_cons_of_mem _ (List.mem_append_left _ (List.mem_of_getElem? (i := 17) rfl))) (gi_sub (fun w h => (List.mem_cons_of_mem _ (List.mem_append_right _ (List.mem_append_right _ (List.mem_append_right _ (List.mem_append_right _ (List.mem_append_right _ (List.mem_append_right _ (List.mem_append_right _ (List.mem_append_left _ h)))))))))) zg_k169_X11_goOnFrom)) rfl rfl rfl (by decide +kernel) ⟨Nat.le_of_ble_eq_true rfl, Nat.le_of_ble_eq_true rfl⟩ 0 rfl rfl rfl rfl (Nat.le_of_ble_eq_true rfl) ⟨Nat.le_of_ble_eq_true rfl, Nat.le_of_ble_eq_true rfl⟩ dX11_read_42 (fun v ty' w' hp hk' => ?_)
    obtain ⟨I1995, A1995, hI1995, hA1995, hV1995, hC, rfl, rfl⟩ := hp
    replace hF := FE.bdX hF hC
    show GW κ 3 0 0 (wX q d I1995 A1995) 45 [(1, .int y1409), (0, .ref (q 0))] []
    refine g_iconst (v := 0) hk dX11_read_45 (by decide) ?_
    refine g_istore_n (lv' := [(2, .int 0), (1, .int y1409), (0, .ref (q 0))]) hk dX11_read_46 (by decide) rfl ?_
    have lp2011 : ∀ (n2012 : Nat) (x1996 : Int32) (I1999 : Nat → Int32) (A1999 : Nat → Nat → Int32), (Md [23, 25, 27] I1995 I1999) → (Md [] A1995 A1999) → (IvX I1999 A1999) → (0 ≤ x1996.toInt) → (x1996.toInt ≤ 3) → (3 - x1996.toInt < (n2012 : Int)) → (0 < n2012) → (FE (fX11_read I A) (itr_iIA dfX (bX11_read_47 y1409) n2012 x1996 I1999 A1999)) → GW κ 3 0 0 (wX q d I1999 A1999) 47 [(2, .int x1996), (1, .int y1409), (0, .ref (q 0))] [] := by
      intro n2012
      induction n2012 with
      | zero =>
        intro x1996 I1999 A1999 hI1999 hA1999 hV1999 h2009 h2010 m2013 m2013z hF
        exact absurd m2013z (Nat.lt_irrefl 0)
      | succ n2012 ih2015 =>
        intro x1996 I1999 A1999 hI1999 hA1999 hV1999 h2009 h2010 m2013 m2013z hF
        replace hF := FE.itr_iIA hF
        refine g_iload_n hk dX11_read_47 rfl ?_
        refine g_aload_n hk dX11_read_48 rfl ?_
        refine gX_r0_6 hk hin11 (List.mem_cons_of_mem _ (List.mem_append_left _ (List.mem_of_getElem? (i := 18) rfl))) dX11_read_49 ?_
        refine nX_14 hk dX11_read_52 ?_
        refine g_icmp_ge (tgt := 72) (a := x1996.toInt) (b := 3) hk dX11_read_53 (by decide) rfl rfl (fun c2016 => ?_) (fun c2016 => ?_)
        · skip
          replace hF := FE.pos hF c2016
          refine g_iload_n hk dX11_read_72 rfl ?_
          have k2017 : (0 : Int32).toInt = 0 := rfl
          have f2018 := IvX_f0 hIv
          exact g_iret hk hR rfl ⟨I1999, A1999, (show Md [0, 1, 2, 3, 4, 5, 6, 7, 8, 9, 10, 11, 12, 13, 14, 16, 17, 18, 19, 21, 23, 25, 27] I I1999 from (Md.tr (Md.tr (Md.tr (Md.up (Md.tr Md.rf hI1410 rfl) rfl) hI1895 rfl) hI1995 rfl) hI1999 rfl)), (show Md [1, 2, 3, 4, 5, 6, 7, 8, 9, 10] A A1999 from (Md.tr (Md.tr (Md.tr (Md.tr Md.rf hA1410 rfl) hA1895 rfl) hA1995 rfl) hA1999 rfl)), hV1999, y1409, (by rw [show I1999 0 = 0 from ((hI1999 0 rfl).trans ((hI1995 0 rfl).trans (hI1895 0 rfl)))]; omega), hF, rfl, rfl⟩ dX11_read_73
        · skip
          replace hF := FE.neg hF c2016
          refine g_aload_n hk dX11_read_56 rfl ?_
          refine gX_r0_6 hk hin11 (List.mem_cons_of_mem _ (List.mem_append_left _ (List.mem_of_getElem? (i := 18) rfl))) dX11_read_57 ?_
          refine g_iload_n hk dX11_read_60 rfl ?_
          by_cases c2019 : x1996.toInt = 0
          · have ec2019 : x1996 = 0 := Int32.toInt_inj.mp c2019
            replace hF := FE.pos hF c2019
            rw [ec2019]
            show GW κ 3 0 0 (wX q d I1999 A1999) 61 [(2, .int 0), (1, .int y1409), (0, .ref (q 0))] [.int 0, .ref (q 24)]
            refine lX_14 hk (vp_in_iff.mpr ⟨by decide, by decide⟩) rfl dX11_read_61 ?_
            refine g_iconst (v := 0) hk dX11_read_62 (by decide) ?_
            refine pX_i23 hk hin8 (List.mem_cons_of_mem _ (List.mem_append_left _ (List.mem_of_getElem? (i := 19) rfl))) ⟨rfl, rfl⟩ dX11_read_63 ?_
            refine g_iinc (v := 1) (lv' := [(2, .int 1), (1, .int y1409), (0, .ref (q 0))]) hk 0 dX11_read_66 rfl (by decide) (by decide) rfl ?_
            refine g_goto (tgt := 47) hk dX11_read_69 (by decide) ?_
            have k2020 : (1 : Int32).toInt = 1 := rfl
            exact g_lv (List.forall_mem_cons.mpr ⟨List.mem_of_getElem? (i := 0) rfl, (List.forall_mem_cons.mpr ⟨List.mem_of_getElem? (i := 1) rfl, (List.forall_mem_cons.mpr ⟨List.mem_of_getElem? (i := 2) rfl, (fun _ h => absurd h List.not_mem_nil)⟩)⟩)⟩) (ih2015 1 (upd I1999 23 0) A1999 (show Md [23, 25, 27] I1995 (upd I1999 23 0) from Md.tr hI1999 (show Md [23, 25, 27] I1999 (upd I1999 23 0) from (Md.up Md.rf rfl)) rfl) (show Md [] A1995 A1999 from Md.tr hA1999 (show Md [] A1999 A1999 from Md.rf) rfl) ⟨(IvX_f0 (I := I1999) (A := A1999) hV1999), (IvX_f18 (I := I1999) (A := A1999) hV1999), (IvX_f30 (I := I1999) (A := A1999) hV1999), (IvX_f31 (I := I1999) (A := A1999) hV1999), (IvX_a4 (I := I1999) (A := A1999) hV1999), (IvX_a9 (I := I1999) (A := A1999) hV1999), trivial⟩ (by omega) (by omega) (by omega) (by omega) hF)
          replace hF := FE.neg hF c2019
          by_cases c2021 : x1996.toInt = 1
          · have ec2021 : x1996 = 1 := Int32.toInt_inj.mp c2021
            replace hF := FE.pos hF c2021
            rw [ec2021]
            show GW κ 3 0 0 (wX q d I1999 A1999) 61 [(2, .int 1), (1, .int y1409), (0, .ref (q 0))] [.int 1, .ref (q 24)]
            refine lX_14 hk (vp_in_iff.mpr ⟨by decide, by decide⟩) rfl dX11_read_61 ?_
            refine g_iconst (v := 0) hk dX11_read_62 (by decide) ?_
            refine pX_i25 hk hin8 (List.mem_cons_of_mem _ (List.mem_append_left _ (List.mem_of_getElem? (i := 19) rfl))) ⟨rfl, rfl⟩ dX11_read_63 ?_
            refine g_iinc (v := 2) (lv' := [(2, .int 2), (1, .int y1409), (0, .ref (q 0))]) hk 0 dX11_read_66 rfl (by decide) (by decide) rfl ?_
            refine g_goto (tgt := 47) hk dX11_read_69 (by decide) ?_
            have k2022 : (2 : Int32).toInt = 2 := rfl
            exact g_lv (List.forall_mem_cons.mpr ⟨List.mem_of_getElem? (i := 0) rfl, (List.forall_mem_cons.mpr ⟨List.mem_of_getElem? (i := 1) rfl, (List.forall_mem_cons.mpr ⟨List.mem_of_getElem? (i := 2) rfl, (fun _ h => absurd h List.not_mem_nil)⟩)⟩)⟩) (ih2015 2 (upd I1999 25 0) A1999 (show Md [23, 25, 27] I1995 (upd I1999 25 0) from Md.tr hI1999 (show Md [23, 25, 27] I1999 (upd I1999 25 0) from (Md.up Md.rf rfl)) rfl) (show Md [] A1995 A1999 from Md.tr hA1999 (show Md [] A1999 A1999 from Md.rf) rfl) ⟨(IvX_f0 (I := I1999) (A := A1999) hV1999), (IvX_f18 (I := I1999) (A := A1999) hV1999), (IvX_f30 (I := I1999) (A := A1999) hV1999), (IvX_f31 (I := I1999) (A := A1999) hV1999), (IvX_a4 (I := I1999) (A := A1999) hV1999), (IvX_a9 (I := I1999) (A := A1999) hV1999), trivial⟩ (by omega) (by omega) (by omega) (by omega) hF)
          replace hF := FE.neg hF c2021
          by_cases c2023 : x1996.toInt = 2
          · have ec2023 : x1996 = 2 := Int32.toInt_inj.mp c2023
            replace hF := FE.pos hF c2023
            rw [ec2023]
            show GW κ 3 0 0 (wX q d I1999 A1999) 61 [(2, .int 2), (1, .int y1409), (0, .ref (q 0))] [.int 2, .ref (q 24)]
            refine lX_14 hk (vp_in_iff.mpr ⟨by decide, by decide⟩) rfl dX11_read_61 ?_
            refine g_iconst (v := 0) hk dX11_read_62 (by decide) ?_
            refine pX_i27 hk hin8 (List.mem_cons_of_mem _ (List.mem_append_left _ (List.mem_of_getElem? (i := 19) rfl))) ⟨rfl, rfl⟩ dX11_read_63 ?_
            refine g_iinc (v := 3) (lv' := [(2, .int 3), (1, .int y1409), (0, .ref (q 0))]) hk 0 dX11_read_66 rfl (by decide) (by decide) rfl ?_
            refine g_goto (tgt := 47) hk dX11_read_69 (by decide) ?_
            have k2024 : (3 : Int32).toInt = 3 := rfl
            exact g_lv (List.forall_mem_cons.mpr ⟨List.mem_of_getElem? (i := 0) rfl, (List.forall_mem_cons.mpr ⟨List.mem_of_getElem? (i := 1) rfl, (List.forall_mem_cons.mpr ⟨List.mem_of_getElem? (i := 2) rfl, (fun _ h => absurd h List.not_mem_nil)⟩)⟩)⟩) (ih2015 3 (upd I1999 27 0) A1999 (show Md [23, 25, 27] I1995 (upd I1999 27 0) from Md.tr hI1999 (show Md [23, 25, 27] I1999 (upd I1999 27 0) from (Md.up Md.rf rfl)) rfl) (show Md [] A1995 A1999 from Md.tr hA1999 (show Md [] A1999 A1999 from Md.rf) rfl) ⟨(IvX_f0 (I := I1999) (A := A1999) hV1999), (IvX_f18 (I := I1999) (A := A1999) hV1999), (IvX_f30 (I := I1999) (A := A1999) hV1999), (IvX_f31 (I := I1999) (A := A1999) hV1999), (IvX_a4 (I := I1999) (A := A1999) hV1999), (IvX_a9 (I := I1999) (A := A1999) hV1999), trivial⟩ (by omega) (by omega) (by omega) (by omega) hF)
          replace hF := FE.neg hF c2023
          exfalso; omega
    have k2026 : (0 : Int32).toInt = 0 := rfl
    have n2025a : 3 - 0 < (FU : Int) := by have := FU_eq; omega
    have n2025b : 0 < FU := by have := FU_eq; omega
    exact lp2011 FU 0 I1995 A1995 Md.rf Md.rf hV1995 (by omega) (by omega) n2025a n2025b hF
noncomputable def fX11_place (I : Nat → Int32) (A : Nat → Nat → Int32) : Int32 := (I 12)
def wo_k176_X11_place : List Cond := [Cond.fieldLink RX11 21 "WarpDesk" "reader" "LWarpDesk$Reader;", Cond.fieldLink RX11 114 "WarpDesk$Reader" "faultPlace" "I"]
def wz_k176_X11_place : List Cond := .code yX11_place cX11_place 1 (some .int) :: (wo_k176_X11_place ++ (wsX50 ++ (wsX110 ++ ([] : List Cond))))
theorem zg_k176_X11_place : ∀ w ∈ wz_k176_X11_place, goodWord w = true := zg_cons rfl (zg_app (by decide +kernel) (zg_app zgU_wsX50 (zg_app zgU_wsX110 zg_nil)))
theorem zi_k176_X11_place : ∀ w ∈ wz_k176_X11_place, w ∈ lw_tbl := zi_cons zw_797 (zi_app (zi_cons zw_488 (zi_cons zw_244 zi_nil)) (zi_app inX5 (zi_app inX11 zi_nil)))
set_option maxHeartbeats 4000000 in
set_option maxRecDepth 100000 in
theorem k176_X11_place (l : Launch) (D : va_G) (zt : Nat × Nat × Nat × (Nat → Nat) × (Nat → Nat)) (q : Nat → Nat) (d : Nat → ClassId) (I : Nat → Int32) (A : Nat → Nat → Int32) (hIv : IvX I A) : GM l D zt (tyX d) yX11_place wz_k176_X11_place ({ frames := 0, cells := 0, slots := 0, locals := 0 } : Room) [.ref (q 0)] (wX q d I A) (fun v _ w' => ∃ y0 : Int32, FE (fX11_place I A) y0 ∧ v = some (.int y0) ∧ w' = wX q d I A) 0 0 := by
  refine GM.of (cc := cX11_place) (maxL := 1) (ret := (some .int)) (own := RX11) (lv := [(0, .ref (q 0))]) (by decide) rfl rfl (Nat.le_of_ble_eq_true rfl) rfl (fun κ sz hk hR hN => ?_)
  have hin5 : ∀ w ∈ u_ws RX5 TX5 13, w ∈ wz_k176_X11_place := fun w h => (List.mem_cons_of_mem _ (List.mem_append_right _ (List.mem_append_left _ h)))
  have hin11 : ∀ w ∈ u_ws RX11 TX11 10, w ∈ wz_k176_X11_place := fun w h => (List.mem_cons_of_mem _ (List.mem_append_right _ (List.mem_append_right _ (List.mem_append_left _ h))))
  have hF : FE (fX11_place I A) (fX11_place I A) := FE.rf
  refine g_aload_n hk dX11_place_0 rfl ?_
  refine gX_r0_1 hk hin11 (List.mem_cons_of_mem _ (List.mem_append_left _ (List.mem_of_getElem? (i := 0) rfl))) dX11_place_1 ?_
  refine gX_i12 (v := (I 12)) hk hin5 (List.mem_cons_of_mem _ (List.mem_append_left _ (List.mem_of_getElem? (i := 1) rfl))) dX11_place_4 rfl ?_
  have b2027l := Int32.le_toInt (I 12)
  have b2027h := Int32.toInt_lt (I 12)
  exact g_iret hk hR rfl ⟨(I 12), hF, rfl, rfl⟩ dX11_place_7
noncomputable def fX11_cause (I : Nat → Int32) (A : Nat → Nat → Int32) : Int32 := (I 13)
def wo_k177_X11_cause : List Cond := [Cond.fieldLink RX11 21 "WarpDesk" "reader" "LWarpDesk$Reader;", Cond.fieldLink RX11 117 "WarpDesk$Reader" "faultCause" "I"]
def wz_k177_X11_cause : List Cond := .code yX11_cause cX11_cause 1 (some .int) :: (wo_k177_X11_cause ++ (wsX50 ++ (wsX110 ++ ([] : List Cond))))
theorem zg_k177_X11_cause : ∀ w ∈ wz_k177_X11_cause, goodWord w = true := zg_cons rfl (zg_app (by decide +kernel) (zg_app zgU_wsX50 (zg_app zgU_wsX110 zg_nil)))
theorem zi_k177_X11_cause : ∀ w ∈ wz_k177_X11_cause, w ∈ lw_tbl := zi_cons zw_801 (zi_app (zi_cons zw_488 (zi_cons zw_246 zi_nil)) (zi_app inX5 (zi_app inX11 zi_nil)))
set_option maxHeartbeats 4000000 in
set_option maxRecDepth 100000 in
theorem k177_X11_cause (l : Launch) (D : va_G) (zt : Nat × Nat × Nat × (Nat → Nat) × (Nat → Nat)) (q : Nat → Nat) (d : Nat → ClassId) (I : Nat → Int32) (A : Nat → Nat → Int32) (hIv : IvX I A) : GM l D zt (tyX d) yX11_cause wz_k177_X11_cause ({ frames := 0, cells := 0, slots := 0, locals := 0 } : Room) [.ref (q 0)] (wX q d I A) (fun v _ w' => ∃ y0 : Int32, FE (fX11_cause I A) y0 ∧ v = some (.int y0) ∧ w' = wX q d I A) 0 0 := by
  refine GM.of (cc := cX11_cause) (maxL := 1) (ret := (some .int)) (own := RX11) (lv := [(0, .ref (q 0))]) (by decide) rfl rfl (Nat.le_of_ble_eq_true rfl) rfl (fun κ sz hk hR hN => ?_)
  have hin5 : ∀ w ∈ u_ws RX5 TX5 13, w ∈ wz_k177_X11_cause := fun w h => (List.mem_cons_of_mem _ (List.mem_append_right _ (List.mem_append_left _ h)))
  have hin11 : ∀ w ∈ u_ws RX11 TX11 10, w ∈ wz_k177_X11_cause := fun w h => (List.mem_cons_of_mem _ (List.mem_append_right _ (List.mem_append_right _ (List.mem_append_left _ h))))
  have hF : FE (fX11_cause I A) (fX11_cause I A) := FE.rf
  refine g_aload_n hk dX11_cause_0 rfl ?_
  refine gX_r0_1 hk hin11 (List.mem_cons_of_mem _ (List.mem_append_left _ (List.mem_of_getElem? (i := 0) rfl))) dX11_cause_1 ?_
  refine gX_i13 (v := (I 13)) hk hin5 (List.mem_cons_of_mem _ (List.mem_append_left _ (List.mem_of_getElem? (i := 1) rfl))) dX11_cause_4 rfl ?_
  have b2028l := Int32.le_toInt (I 13)
  have b2028h := Int32.toInt_lt (I 13)
  exact g_iret hk hR rfl ⟨(I 13), hF, rfl, rfl⟩ dX11_cause_7
noncomputable def fX6_valueAt (I : Nat → Int32) (A : Nat → Nat → Int32) (z1 : Int32) : Int32 := if z1.toInt < 0 then (-1000) else if (I 18).toInt ≤ z1.toInt then (-1000) else f_lt ((I 17) + z1) fun y2034 => f_lt (y2034 &&& (255 : Int32)) fun y2036 => (A 7 y2036.toNatClampNeg)
def wz_k179_X6_valueAt : List Cond := .code yX6_valueAt cX6_valueAt 2 (some .int) :: (wo_k172_X6_append ++ (wsX60 ++ ([] : List Cond)))
theorem zg_k179_X6_valueAt : ∀ w ∈ wz_k179_X6_valueAt, goodWord w = true := zg_cons rfl (zg_app (by decide +kernel) (zg_app zgU_wsX60 zg_nil))
theorem zi_k179_X6_valueAt : ∀ w ∈ wz_k179_X6_valueAt, w ∈ lw_tbl := zi_cons zw_809 (zi_app (zi_cons zw_282 (zi_cons zw_280 (zi_cons zw_281 zi_nil))) (zi_app inX6 zi_nil))
set_option maxHeartbeats 4000000 in
set_option maxRecDepth 100000 in
theorem k179_X6_valueAt (l : Launch) (D : va_G) (zt : Nat × Nat × Nat × (Nat → Nat) × (Nat → Nat)) (q : Nat → Nat) (d : Nat → ClassId) (I : Nat → Int32) (A : Nat → Nat → Int32) (z1 : Int32) (hIv : IvX I A) : GM l D zt (tyX d) yX6_valueAt wz_k179_X6_valueAt ({ frames := 0, cells := 0, slots := 0, locals := 0 } : Room) [.ref (q 13), .int z1] (wX q d I A) (fun v _ w' => ∃ y0 : Int32, FE (fX6_valueAt I A z1) y0 ∧ v = some (.int y0) ∧ w' = wX q d I A) 0 0 := by
  refine GM.of (cc := cX6_valueAt) (maxL := 2) (ret := (some .int)) (own := RX6) (lv := [(0, .ref (q 13)), (1, .int z1)]) (by decide) rfl rfl (Nat.le_of_ble_eq_true rfl) rfl (fun κ sz hk hR hN => ?_)
  have hin6 : ∀ w ∈ u_ws RX6 TX6 3, w ∈ wz_k179_X6_valueAt := fun w h => (List.mem_cons_of_mem _ (List.mem_append_right _ (List.mem_append_left _ h)))
  have hF : FE (fX6_valueAt I A z1) (fX6_valueAt I A z1) := FE.rf
  refine g_iload_n hk dX6_valueAt_0 rfl ?_
  have b2029l := Int32.le_toInt z1
  have b2029h := Int32.toInt_lt z1
  refine g_if_lt (tgt := 30) (a := z1.toInt) hk dX6_valueAt_1 (by decide) rfl (fun c2030 => ?_) (fun c2030 => ?_)
  · skip
    replace hF := FE.pos hF c2030
    refine g_sipush (v := (-1000)) hk dX6_valueAt_30 (by decide) ?_
    exact g_iret hk hR rfl ⟨(-1000), hF, rfl, rfl⟩ dX6_valueAt_33
  · skip
    replace hF := FE.neg hF c2030
    refine g_iload_n hk dX6_valueAt_4 rfl ?_
    refine g_aload_n hk dX6_valueAt_5 rfl ?_
    refine gX_i18 (v := (I 18)) hk hin6 (List.mem_cons_of_mem _ (List.mem_append_left _ (List.mem_of_getElem? (i := 0) rfl))) dX6_valueAt_6 rfl ?_
    have f2031 := IvX_f18 hIv
    refine g_icmp_ge (tgt := 30) (a := z1.toInt) (b := (I 18).toInt) hk dX6_valueAt_9 (by decide) rfl rfl (fun c2032 => ?_) (fun c2032 => ?_)
    · skip
      replace hF := FE.pos hF c2032
      refine g_sipush (v := (-1000)) hk dX6_valueAt_30 (by decide) ?_
      exact g_iret hk hR rfl ⟨(-1000), hF, rfl, rfl⟩ dX6_valueAt_33
    · skip
      replace hF := FE.neg hF c2032
      refine g_aload_n hk dX6_valueAt_12 rfl ?_
      refine gX_r13_0 hk hin6 (List.mem_cons_of_mem _ (List.mem_append_left _ (List.mem_of_getElem? (i := 1) rfl))) dX6_valueAt_13 ?_
      refine g_aload_n hk dX6_valueAt_16 rfl ?_
      refine gX_i17 (v := (I 17)) hk hin6 (List.mem_cons_of_mem _ (List.mem_append_left _ (List.mem_of_getElem? (i := 2) rfl))) dX6_valueAt_17 rfl ?_
      refine g_iload_n hk dX6_valueAt_20 rfl ?_
      have b2033l := Int32.le_toInt (I 17)
      have b2033h := Int32.toInt_lt (I 17)
      refine g_iadd hk dX6_valueAt_21 ?_
      refine g_topi (fun y2034 ey2034 => ?_)
      replace hF := FE.lt hF ey2034
      refine g_sipush (v := 255) hk dX6_valueAt_22 (by decide) ?_
      have b2035l := Int32.le_toInt y2034
      have b2035h := Int32.toInt_lt y2034
      refine g_iand hk dX6_valueAt_25 ?_
      refine g_topi (fun y2036 ey2036 => ?_)
      replace hF := FE.lt hF ey2036
      have hy2036 : 0 ≤ y2036.toInt ∧ y2036.toInt ≤ 255 := i32_mask 8 ey2036 (by decide) (by decide)
      refine lX_7 (v := (A 7 y2036.toNatClampNeg)) hk (vp_in_iff.mpr ⟨by omega, by omega⟩) rfl dX6_valueAt_26 ?_
      refine g_goto (tgt := 33) hk dX6_valueAt_27 (by decide) ?_
      have b2037l := Int32.le_toInt (A 7 y2036.toNatClampNeg)
      have b2037h := Int32.toInt_lt (A 7 y2036.toNatClampNeg)
      exact g_iret hk hR rfl ⟨(A 7 y2036.toNatClampNeg), hF, rfl, rfl⟩ dX6_valueAt_33
noncomputable def fX11_at (I : Nat → Int32) (A : Nat → Nat → Int32) (z1 : Int32) : Int32 := f_lt (fX6_valueAt I A z1) fun y2038 => y2038
def wo_k178_X11_at : List Cond := [Cond.fieldLink RX11 28 "WarpDesk" "series" "LWarpDesk$Series;", Cond.methodLink RX11 120 yX6_valueAt, Cond.instanceMethod yX6_valueAt, Cond.selects RX6 yX6_valueAt yX6_valueAt, Cond.initialized RX6]
def wz_k178_X11_at : List Cond := .code yX11_at cX11_at 2 (some .int) :: (wo_k178_X11_at ++ (wsX110 ++ (wz_k179_X6_valueAt ++ ([] : List Cond))))
theorem zg_k178_X11_at : ∀ w ∈ wz_k178_X11_at, goodWord w = true := zg_cons rfl (zg_app (by decide +kernel) (zg_app zgU_wsX110 (zg_app zg_k179_X6_valueAt zg_nil)))
theorem zi_k178_X11_at : ∀ w ∈ wz_k178_X11_at, w ∈ lw_tbl := zi_cons zw_805 (zi_app (zi_cons zw_489 (zi_cons zw_806 (zi_cons zw_807 (zi_cons zw_808 (zi_cons zw_109 zi_nil))))) (zi_app inX11 (zi_app zi_k179_X6_valueAt zi_nil)))
set_option maxHeartbeats 4000000 in
set_option maxRecDepth 100000 in
theorem k178_X11_at (l : Launch) (D : va_G) (zt : Nat × Nat × Nat × (Nat → Nat) × (Nat → Nat)) (q : Nat → Nat) (d : Nat → ClassId) (I : Nat → Int32) (A : Nat → Nat → Int32) (z1 : Int32) (hIv : IvX I A) : GM l D zt (tyX d) yX11_at wz_k178_X11_at ({ frames := 1, cells := 0, slots := 0, locals := 21 } : Room) [.ref (q 0), .int z1] (wX q d I A) (fun v _ w' => ∃ y0 : Int32, FE (fX11_at I A z1) y0 ∧ v = some (.int y0) ∧ w' = wX q d I A) 0 0 := by
  refine GM.of (cc := cX11_at) (maxL := 2) (ret := (some .int)) (own := RX11) (lv := [(0, .ref (q 0)), (1, .int z1)]) (by decide) rfl rfl (Nat.le_of_ble_eq_true rfl) rfl (fun κ sz hk hR hN => ?_)
  have hin11 : ∀ w ∈ u_ws RX11 TX11 10, w ∈ wz_k178_X11_at := fun w h => (List.mem_cons_of_mem _ (List.mem_append_right _ (List.mem_append_left _ h)))
  have hF : FE (fX11_at I A z1) (fX11_at I A z1) := FE.rf
  refine g_aload_n hk dX11_at_0 rfl ?_
  refine gX_r0_2 hk hin11 (List.mem_cons_of_mem _ (List.mem_append_left _ (List.mem_of_getElem? (i := 0) rfl))) dX11_at_1 ?_
  refine g_iload_n hk dX11_at_4 rfl ?_
  refine g_callV (n := 1) hk (k179_X6_valueAt l D zt q d I A z1 hIv) (SP.same _) (fun _ h => h) (gi_V (List.mem_cons_of_mem _ (List.mem_append_left _ (List.mem_of_getElem? (i := 1) rfl))) (List.mem_cons_of_mem _ (List.mem_append_left _ (List.mem_of_getElem? (i := 2) rfl))) (List.mem_cons_of_mem _ (List.mem_append_left _ (List.mem_of_getElem? (i := 3) rfl))) (List.mem_cons_of_mem _ (List.mem_append_left _ (List.mem_of_getElem? (i := 4) rfl))) (gi_sub (fun w h => (List.mem_cons_of_mem _ (List.mem_append_right _ (List.mem_append_right _ (List.mem_append_left _ h))))) zg_k179_X6_valueAt)) rfl rfl rfl (by decide +kernel) ⟨Nat.le_of_ble_eq_true rfl, Nat.le_of_ble_eq_true rfl⟩ 13 rfl rfl rfl rfl (Nat.le_of_ble_eq_true rfl) ⟨Nat.le_of_ble_eq_true rfl, Nat.le_of_ble_eq_true rfl⟩ dX11_at_5 (fun v ty' w' hp hk' => ?_)
  obtain ⟨y2038, hC, rfl, rfl⟩ := hp
  replace hF := FE.lt hF (fe_s hC)
  show GW κ 2 0 0 (wX q d I A) 8 [(0, .ref (q 0)), (1, .int z1)] [.int y2038]
  have b2039l := Int32.le_toInt y2038
  have b2039h := Int32.toInt_lt y2038
  exact g_iret hk hR rfl ⟨y2038, hF, rfl, rfl⟩ dX11_at_8
noncomputable def fX4_lengthOf_2 (I : Nat → Int32) (A : Nat → Nat → Int32) (z1 : Int32) : Int32 × Nat := if fX4_has_2 I A z1 = 0 then (0, 0) else ((A 9 z1.toNatClampNeg), 1)
set_option maxHeartbeats 4000000 in
set_option maxRecDepth 100000 in
theorem k182_X4_lengthOf (l : Launch) (D : va_G) (zt : Nat × Nat × Nat × (Nat → Nat) × (Nat → Nat)) (q : Nat → Nat) (d : Nat → ClassId) (I : Nat → Int32) (A : Nat → Nat → Int32) (z1 : Int32) (hIv : IvX I A) : GM l D zt (tyX d) yX4_lengthOf wz_k165_X4_lengthOf ({ frames := 1, cells := 0, slots := 0, locals := 21 } : Room) [.ref (q 15), .int z1] (wX q d I A) (fun v _ w' => (FE (fX4_lengthOf_2 I A z1) (0, 0) ∧ v = some (.int 0) ∧ w' = wX q d I A) ∨ (∃ y0 : Int32, (¬ (z1.toInt < 0)) ∧ (¬ (5 ≤ z1.toInt)) ∧ (0 ≤ z1.toInt) ∧ (z1.toInt ≤ 4) ∧ (0 ≤ z1.toInt) ∧ (z1.toInt ≤ 4) ∧ (0 ≤ y0.toInt) ∧ (y0.toInt ≤ 16) ∧ FE (fX4_lengthOf_2 I A z1) (y0, 1) ∧ v = some (.int y0) ∧ w' = wX q d I A)) 0 0 := by
  refine GM.of (cc := cX4_lengthOf) (maxL := 2) (ret := (some .int)) (own := RX4) (lv := [(0, .ref (q 15)), (1, .int z1)]) (by decide) rfl rfl (Nat.le_of_ble_eq_true rfl) rfl (fun κ sz hk hR hN => ?_)
  have hin4 : ∀ w ∈ u_ws RX4 TX4 3, w ∈ wz_k165_X4_lengthOf := fun w h => (List.mem_cons_of_mem _ (List.mem_append_right _ (List.mem_append_left _ h)))
  have hF : FE (fX4_lengthOf_2 I A z1) (fX4_lengthOf_2 I A z1) := FE.rf
  refine g_aload_n hk dX4_lengthOf_0 rfl ?_
  refine g_iload_n hk dX4_lengthOf_1 rfl ?_
  refine g_callV (n := 1) hk (k168_X4_has l D zt q d I A z1 hIv) (SP.same _) (fun _ h => h) (gi_V (List.mem_cons_of_mem _ (List.mem_append_left _ (List.mem_of_getElem? (i := 0) rfl))) (List.mem_cons_of_mem _ (List.mem_append_left _ (List.mem_of_getElem? (i := 1) rfl))) (List.mem_cons_of_mem _ (List.mem_append_left _ (List.mem_of_getElem? (i := 2) rfl))) (List.mem_cons_of_mem _ (List.mem_append_left _ (List.mem_of_getElem? (i := 3) rfl))) (gi_sub (fun w h => (List.mem_cons_of_mem _ (List.mem_append_right _ (List.mem_append_right _ (List.mem_append_left _ h))))) zg_k155_X4_has)) rfl rfl rfl (by decide +kernel) ⟨Nat.le_of_ble_eq_true rfl, Nat.le_of_ble_eq_true rfl⟩ 15 rfl rfl rfl rfl (Nat.le_of_ble_eq_true rfl) ⟨Nat.le_of_ble_eq_true rfl, Nat.le_of_ble_eq_true rfl⟩ dX4_lengthOf_2 (fun v ty' w' hp hk' => ?_)
  rcases hp with ⟨hC, rfl, rfl⟩ | ⟨c2044, c2045, c2046, c2047, hC, rfl, rfl⟩
  · skip
    replace hF := FE.pos hF hC
    show GW κ 2 0 0 (wX q d I A) 5 [(0, .ref (q 15)), (1, .int z1)] [.int 0]
    refine g_if_eq (tgt := 17) (a := 0) hk dX4_lengthOf_5 (by decide) rfl (fun _ => ?_) (fun z9 => absurd (show (0 : Int) = (0 : Int) from by decide) z9)
    refine g_iconst (v := 0) hk dX4_lengthOf_17 (by decide) ?_
    exact g_iret hk hR rfl (Or.inl ⟨hF, rfl, rfl⟩) dX4_lengthOf_18
  · skip
    replace hF := FE.neg hF (fe_ne hC (by decide))
    show GW κ 2 0 0 (wX q d I A) 5 [(0, .ref (q 15)), (1, .int z1)] [.int 1]
    refine g_if_eq (tgt := 17) (a := 1) hk dX4_lengthOf_5 (by decide) rfl (fun z9 => absurd z9 (show ¬ ((1 : Int) = (0 : Int)) from by decide)) (fun _ => ?_)
    refine g_aload_n hk dX4_lengthOf_8 rfl ?_
    refine gX_r15_1 hk hin4 (List.mem_cons_of_mem _ (List.mem_append_left _ (List.mem_of_getElem? (i := 4) rfl))) dX4_lengthOf_9 ?_
    refine g_iload_n hk dX4_lengthOf_12 rfl ?_
    refine lX_9 (v := (A 9 z1.toNatClampNeg)) hk (vp_in_iff.mpr ⟨by omega, by omega⟩) rfl dX4_lengthOf_13 ?_
    have f2049 := IvX_a9 hIv (z1.toNatClampNeg)
    refine g_goto (tgt := 18) hk dX4_lengthOf_14 (by decide) ?_
    exact g_iret hk hR rfl (Or.inr (⟨(A 9 z1.toNatClampNeg), c2044, c2045, c2046, c2047, (by omega), (by omega), (by omega), (by omega), hF, rfl, rfl⟩)) dX4_lengthOf_18
noncomputable def fX4_valueAt_2 (I : Nat → Int32) (A : Nat → Nat → Int32) (z1 : Int32) (z2 : Int32) : Int32 := if z2.toInt < 0 then (-1000) else if 16 ≤ z2.toInt then (-1000) else if (fX4_lengthOf_2 I A z1).2 = 0 then (-1000) else f_lt (fX4_lengthOf_2 I A z1).1 fun y2057 => if y2057.toInt ≤ z2.toInt then (-1000) else f_lt (z1 * (16 : Int32)) fun y2061 => f_lt (y2061 + z2) fun y2062 => (A 8 y2062.toNatClampNeg)
set_option maxHeartbeats 4000000 in
set_option maxRecDepth 100000 in
theorem k181_X4_valueAt (l : Launch) (D : va_G) (zt : Nat × Nat × Nat × (Nat → Nat) × (Nat → Nat)) (q : Nat → Nat) (d : Nat → ClassId) (I : Nat → Int32) (A : Nat → Nat → Int32) (z1 : Int32) (z2 : Int32) (hIv : IvX I A) : GM l D zt (tyX d) yX4_valueAt wz_k166_X4_valueAt ({ frames := 2, cells := 0, slots := 0, locals := 42 } : Room) [.ref (q 15), .int z1, .int z2] (wX q d I A) (fun v _ w' => ∃ y0 : Int32, FE (fX4_valueAt_2 I A z1 z2) y0 ∧ v = some (.int y0) ∧ w' = wX q d I A) 0 0 := by
  refine GM.of (cc := cX4_valueAt) (maxL := 3) (ret := (some .int)) (own := RX4) (lv := [(0, .ref (q 15)), (1, .int z1), (2, .int z2)]) (by decide) rfl rfl (Nat.le_of_ble_eq_true rfl) rfl (fun κ sz hk hR hN => ?_)
  have hin4 : ∀ w ∈ u_ws RX4 TX4 3, w ∈ wz_k166_X4_valueAt := fun w h => (List.mem_cons_of_mem _ (List.mem_append_right _ (List.mem_append_left _ h)))
  have hF : FE (fX4_valueAt_2 I A z1 z2) (fX4_valueAt_2 I A z1 z2) := FE.rf
  refine g_iload_n hk dX4_valueAt_0 rfl ?_
  have b2040l := Int32.le_toInt z2
  have b2040h := Int32.toInt_lt z2
  refine g_if_lt (tgt := 33) (a := z2.toInt) hk dX4_valueAt_1 (by decide) rfl (fun c2041 => ?_) (fun c2041 => ?_)
  · skip
    replace hF := FE.pos hF c2041
    refine g_sipush (v := (-1000)) hk dX4_valueAt_33 (by decide) ?_
    exact g_iret hk hR rfl ⟨(-1000), hF, rfl, rfl⟩ dX4_valueAt_36
  · skip
    replace hF := FE.neg hF c2041
    refine g_iload_n hk dX4_valueAt_4 rfl ?_
    refine g_bipush (v := 16) hk dX4_valueAt_5 (by decide) ?_
    refine g_icmp_ge (tgt := 33) (a := z2.toInt) (b := 16) hk dX4_valueAt_7 (by decide) rfl rfl (fun c2042 => ?_) (fun c2042 => ?_)
    · skip
      replace hF := FE.pos hF c2042
      refine g_sipush (v := (-1000)) hk dX4_valueAt_33 (by decide) ?_
      exact g_iret hk hR rfl ⟨(-1000), hF, rfl, rfl⟩ dX4_valueAt_36
    · skip
      replace hF := FE.neg hF c2042
      refine g_iload_n hk dX4_valueAt_10 rfl ?_
      refine g_aload_n hk dX4_valueAt_11 rfl ?_
      refine g_iload_n hk dX4_valueAt_12 rfl ?_
      refine g_callV (n := 1) hk (k182_X4_lengthOf l D zt q d I A z1 hIv) (SP.same _) (fun _ h => h) (gi_V (List.mem_cons_of_mem _ (List.mem_append_left _ (List.mem_of_getElem? (i := 0) rfl))) (List.mem_cons_of_mem _ (List.mem_append_left _ (List.mem_of_getElem? (i := 1) rfl))) (List.mem_cons_of_mem _ (List.mem_append_left _ (List.mem_of_getElem? (i := 2) rfl))) (List.mem_cons_of_mem _ (List.mem_append_left _ (List.mem_of_getElem? (i := 3) rfl))) (gi_sub (fun w h => (List.mem_cons_of_mem _ (List.mem_append_right _ (List.mem_append_right _ (List.mem_append_left _ h))))) zg_k165_X4_lengthOf)) rfl rfl rfl (by decide +kernel) ⟨Nat.le_of_ble_eq_true rfl, Nat.le_of_ble_eq_true rfl⟩ 15 rfl rfl rfl rfl (Nat.le_of_ble_eq_true rfl) ⟨Nat.le_of_ble_eq_true rfl, Nat.le_of_ble_eq_true rfl⟩ dX4_valueAt_13 (fun v ty' w' hp hk' => ?_)
      rcases hp with ⟨hC, rfl, rfl⟩ | ⟨y2057, c2051, c2052, c2053, c2054, c2055, c2056, c2058, c2059, hC, rfl, rfl⟩
      · skip
        replace hF := FE.pos hF (fe_2 hC)
        show GW κ 3 0 0 (wX q d I A) 16 [(0, .ref (q 15)), (1, .int z1), (2, .int z2)] [.int 0, .int z2]
        refine g_icmp_ge (tgt := 33) (a := z2.toInt) (b := 0) hk dX4_valueAt_16 (by decide) rfl rfl (fun _ => ?_) (fun z9 => absurd (show 0 ≤ z2.toInt from by omega) z9)
        refine g_sipush (v := (-1000)) hk dX4_valueAt_33 (by decide) ?_
        exact g_iret hk hR rfl ⟨(-1000), hF, rfl, rfl⟩ dX4_valueAt_36
      · skip
        replace hF := FE.neg hF (fe_ne2 hC (by decide))
        replace hF := FE.lt hF (fe_1 hC)
        show GW κ 3 0 0 (wX q d I A) 16 [(0, .ref (q 15)), (1, .int z1), (2, .int z2)] [.int y2057, .int z2]
        refine g_icmp_ge (tgt := 33) (a := z2.toInt) (b := y2057.toInt) hk dX4_valueAt_16 (by decide) rfl rfl (fun c2060 => ?_) (fun c2060 => ?_)
        · skip
          replace hF := FE.pos hF c2060
          refine g_sipush (v := (-1000)) hk dX4_valueAt_33 (by decide) ?_
          exact g_iret hk hR rfl ⟨(-1000), hF, rfl, rfl⟩ dX4_valueAt_36
        · skip
          replace hF := FE.neg hF c2060
          refine g_aload_n hk dX4_valueAt_19 rfl ?_
          refine gX_r15_0 hk hin4 (List.mem_cons_of_mem _ (List.mem_append_left _ (List.mem_of_getElem? (i := 4) rfl))) dX4_valueAt_20 ?_
          refine g_iload_n hk dX4_valueAt_23 rfl ?_
          refine g_bipush (v := 16) hk dX4_valueAt_24 (by decide) ?_
          refine g_imul hk dX4_valueAt_26 ?_
          refine g_topi (fun y2061 ey2061 => ?_)
          replace hF := FE.lt hF ey2061
          have hy2061 : y2061.toInt = z1.toInt * 16 := i32_mul ey2061 rfl rfl (by omega) (by omega)
          refine g_iload_n hk dX4_valueAt_27 rfl ?_
          refine g_iadd hk dX4_valueAt_28 ?_
          refine g_topi (fun y2062 ey2062 => ?_)
          replace hF := FE.lt hF ey2062
          have hy2062 : y2062.toInt = y2061.toInt + z2.toInt := i32_add ey2062 rfl rfl (by omega) (by omega)
          refine lX_8 (v := (A 8 y2062.toNatClampNeg)) hk (vp_in_iff.mpr ⟨by omega, by omega⟩) rfl dX4_valueAt_29 ?_
          refine g_goto (tgt := 36) hk dX4_valueAt_30 (by decide) ?_
          have b2063l := Int32.le_toInt (A 8 y2062.toNatClampNeg)
          have b2063h := Int32.toInt_lt (A 8 y2062.toNatClampNeg)
          exact g_iret hk hR rfl ⟨(A 8 y2062.toNatClampNeg), hF, rfl, rfl⟩ dX4_valueAt_36
noncomputable def fX11_query (I : Nat → Int32) (A : Nat → Nat → Int32) (z1 : Int32) (z2 : Int32) : Int32 := f_lt (fX4_valueAt_2 I A z1 z2) fun y2064 => y2064
def wo_k180_X11_query : List Cond := [Cond.fieldLink RX11 35 "WarpDesk" "queries" "LWarpDesk$Queries;", Cond.methodLink RX11 124 yX4_valueAt, Cond.instanceMethod yX4_valueAt, Cond.selects RX4 yX4_valueAt yX4_valueAt, Cond.initialized RX4]
def wz_k180_X11_query : List Cond := .code yX11_query cX11_query 3 (some .int) :: (wo_k180_X11_query ++ (wsX110 ++ (wz_k166_X4_valueAt ++ ([] : List Cond))))
theorem zg_k180_X11_query : ∀ w ∈ wz_k180_X11_query, goodWord w = true := zg_cons rfl (zg_app (by decide +kernel) (zg_app zgU_wsX110 (zg_app zg_k166_X4_valueAt zg_nil)))
theorem zi_k180_X11_query : ∀ w ∈ wz_k180_X11_query, w ∈ lw_tbl := zi_cons zw_813 (zi_app (zi_cons zw_490 (zi_cons zw_814 (zi_cons zw_761 (zi_cons zw_762 (zi_cons zw_108 zi_nil))))) (zi_app inX11 (zi_app zi_k166_X4_valueAt zi_nil)))
set_option maxHeartbeats 4000000 in
set_option maxRecDepth 100000 in
theorem k180_X11_query (l : Launch) (D : va_G) (zt : Nat × Nat × Nat × (Nat → Nat) × (Nat → Nat)) (q : Nat → Nat) (d : Nat → ClassId) (I : Nat → Int32) (A : Nat → Nat → Int32) (z1 : Int32) (z2 : Int32) (hIv : IvX I A) : GM l D zt (tyX d) yX11_query wz_k180_X11_query ({ frames := 3, cells := 0, slots := 0, locals := 64 } : Room) [.ref (q 0), .int z1, .int z2] (wX q d I A) (fun v _ w' => ∃ y0 : Int32, FE (fX11_query I A z1 z2) y0 ∧ v = some (.int y0) ∧ w' = wX q d I A) 0 0 := by
  refine GM.of (cc := cX11_query) (maxL := 3) (ret := (some .int)) (own := RX11) (lv := [(0, .ref (q 0)), (1, .int z1), (2, .int z2)]) (by decide) rfl rfl (Nat.le_of_ble_eq_true rfl) rfl (fun κ sz hk hR hN => ?_)
  have hin11 : ∀ w ∈ u_ws RX11 TX11 10, w ∈ wz_k180_X11_query := fun w h => (List.mem_cons_of_mem _ (List.mem_append_right _ (List.mem_append_left _ h)))
  have hF : FE (fX11_query I A z1 z2) (fX11_query I A z1 z2) := FE.rf
  refine g_aload_n hk dX11_query_0 rfl ?_
  refine gX_r0_3 hk hin11 (List.mem_cons_of_mem _ (List.mem_append_left _ (List.mem_of_getElem? (i := 0) rfl))) dX11_query_1 ?_
  refine g_iload_n hk dX11_query_4 rfl ?_
  refine g_iload_n hk dX11_query_5 rfl ?_
  refine g_callV (n := 2) hk (k181_X4_valueAt l D zt q d I A z1 z2 hIv) (SP.same _) (fun _ h => h) (gi_V (List.mem_cons_of_mem _ (List.mem_append_left _ (List.mem_of_getElem? (i := 1) rfl))) (List.mem_cons_of_mem _ (List.mem_append_left _ (List.mem_of_getElem? (i := 2) rfl))) (List.mem_cons_of_mem _ (List.mem_append_left _ (List.mem_of_getElem? (i := 3) rfl))) (List.mem_cons_of_mem _ (List.mem_append_left _ (List.mem_of_getElem? (i := 4) rfl))) (gi_sub (fun w h => (List.mem_cons_of_mem _ (List.mem_append_right _ (List.mem_append_right _ (List.mem_append_left _ h))))) zg_k166_X4_valueAt)) rfl rfl rfl (by decide +kernel) ⟨Nat.le_of_ble_eq_true rfl, Nat.le_of_ble_eq_true rfl⟩ 15 rfl rfl rfl rfl (Nat.le_of_ble_eq_true rfl) ⟨Nat.le_of_ble_eq_true rfl, Nat.le_of_ble_eq_true rfl⟩ dX11_query_6 (fun v ty' w' hp hk' => ?_)
  obtain ⟨y2064, hC, rfl, rfl⟩ := hp
  replace hF := FE.lt hF (fe_s hC)
  show GW κ 3 0 0 (wX q d I A) 9 [(0, .ref (q 0)), (1, .int z1), (2, .int z2)] [.int y2064]
  have b2065l := Int32.le_toInt y2064
  have b2065h := Int32.toInt_lt y2064
  exact g_iret hk hR rfl ⟨y2064, hF, rfl, rfl⟩ dX11_query_9
noncomputable def fX3_note (I : Nat → Int32) (A : Nat → Nat → Int32) (z1 : Int32) (z2 : Int32) (z3 : Int32) : Int32 × (Nat → Int32) × (Nat → Nat → Int32) := if (I 20).toInt < 0 then (0, I, A) else if (I 20).toInt < 40 then if (I 20).toInt ≠ 39 then f_lt ((I 20) + (1 : Int32)) fun y2078 => f_lt ((I 21) + (1 : Int32)) fun y2080 => f_lt (if (40 : Int32) < y2080 then (40 : Int32) else y2080) fun y2082 => (0, (upd (upd I 20 y2078) 21 y2082), (up3 (up3 (up3 A 11 ((I 20).toNatClampNeg) z1) 12 ((I 20).toNatClampNeg) z2) 13 ((I 20).toNatClampNeg) z3)) else f_lt ((I 21) + (1 : Int32)) fun y2085 => f_lt (if (40 : Int32) < y2085 then (40 : Int32) else y2085) fun y2087 => (0, (upd (upd I 20 0) 21 y2087), (up3 (up3 (up3 A 11 ((I 20).toNatClampNeg) z1) 12 ((I 20).toNatClampNeg) z2) 13 ((I 20).toNatClampNeg) z3)) else (0, I, A)
def wo_k185_X3_note : List Cond := [Cond.fieldLink RX3 23 "WarpDesk$Past" "next" "I", Cond.fieldLink RX3 9 "WarpDesk$Past" "kinds" "[I", Cond.fieldLink RX3 13 "WarpDesk$Past" "firsts" "[I", Cond.fieldLink RX3 16 "WarpDesk$Past" "seconds" "[I", Cond.fieldLink RX3 19 "WarpDesk$Past" "size" "I", Cond.methodLink RX3 26 Lib.Math.min.name, Cond.static Lib.Math.min.name, Cond.initialized "java/lang/Math", Cond.code Lib.Math.min.name Lib.Math.min.code 2 (some .int)]
def wz_k185_X3_note : List Cond := .code yX3_note cX3_note 4 none :: (wo_k185_X3_note ++ (wsX30 ++ ([] : List Cond)))
theorem zg_k185_X3_note : ∀ w ∈ wz_k185_X3_note, goodWord w = true := zg_cons rfl (zg_app (by decide +kernel) (zg_app zgU_wsX30 zg_nil))
theorem zi_k185_X3_note : ∀ w ∈ wz_k185_X3_note, w ∈ lw_tbl := zi_cons zw_827 (zi_app (zi_cons zw_305 (zi_cons zw_302 (zi_cons zw_303 (zi_cons zw_304 (zi_cons zw_306 (zi_cons zw_828 (zi_cons zw_829 (zi_cons zw_120 (zi_cons zw_830 zi_nil))))))))) (zi_app inX3 zi_nil))
set_option maxHeartbeats 4000000 in
set_option maxRecDepth 100000 in
theorem k185_X3_note (l : Launch) (D : va_G) (zt : Nat × Nat × Nat × (Nat → Nat) × (Nat → Nat)) (q : Nat → Nat) (d : Nat → ClassId) (I : Nat → Int32) (A : Nat → Nat → Int32) (z1 : Int32) (z2 : Int32) (z3 : Int32) (hIv : IvX I A) : GM l D zt (tyX d) yX3_note wz_k185_X3_note ({ frames := 1, cells := 0, slots := 0, locals := 14 } : Room) [.ref (q 20), .int z1, .int z2, .int z3] (wX q d I A) (fun v _ w' => ∃ (I' : Nat → Int32) (A' : Nat → Nat → Int32), Md [20, 21] I I' ∧ Md [11, 12, 13] A A' ∧ IvX I' A' ∧ FE (fX3_note I A z1 z2 z3) (0, I', A') ∧ v = none ∧ w' = wX q d I' A') 0 0 := by
  refine GM.of (cc := cX3_note) (maxL := 4) (ret := none) (own := RX3) (lv := [(0, .ref (q 20)), (1, .int z1), (2, .int z2), (3, .int z3)]) (by decide) rfl rfl (Nat.le_of_ble_eq_true rfl) rfl (fun κ sz hk hR hN => ?_)
  have hin3 : ∀ w ∈ u_ws RX3 TX3 5, w ∈ wz_k185_X3_note := fun w h => (List.mem_cons_of_mem _ (List.mem_append_right _ (List.mem_append_left _ h)))
  have hF : FE (fX3_note I A z1 z2 z3) (fX3_note I A z1 z2 z3) := FE.rf
  refine g_aload_n hk dX3_note_0 rfl ?_
  refine gX_i20 (v := (I 20)) hk hin3 (List.mem_cons_of_mem _ (List.mem_append_left _ (List.mem_of_getElem? (i := 0) rfl))) dX3_note_1 rfl ?_
  have b2074l := Int32.le_toInt (I 20)
  have b2074h := Int32.toInt_lt (I 20)
  refine g_if_lt (tgt := 16) (a := (I 20).toInt) hk dX3_note_4 (by decide) rfl (fun c2075 => ?_) (fun c2075 => ?_)
  · skip
    replace hF := FE.pos hF c2075
    exact g_vret hk hR ⟨I, A, (show Md [20, 21] I I from Md.rf), (show Md [11, 12, 13] A A from Md.rf), hIv, hF, rfl, rfl⟩ dX3_note_16
  · skip
    replace hF := FE.neg hF c2075
    refine g_aload_n hk dX3_note_7 rfl ?_
    refine gX_i20 (v := (I 20)) hk hin3 (List.mem_cons_of_mem _ (List.mem_append_left _ (List.mem_of_getElem? (i := 0) rfl))) dX3_note_8 rfl ?_
    refine g_bipush (v := 40) hk dX3_note_11 (by decide) ?_
    refine g_icmp_lt (tgt := 17) (a := (I 20).toInt) (b := 40) hk dX3_note_13 (by decide) rfl rfl (fun c2076 => ?_) (fun c2076 => ?_)
    · skip
      replace hF := FE.pos hF c2076
      refine g_aload_n hk dX3_note_17 rfl ?_
      refine gX_r20_0 hk hin3 (List.mem_cons_of_mem _ (List.mem_append_left _ (List.mem_of_getElem? (i := 1) rfl))) dX3_note_18 ?_
      refine g_aload_n hk dX3_note_21 rfl ?_
      refine gX_i20 (v := (I 20)) hk hin3 (List.mem_cons_of_mem _ (List.mem_append_left _ (List.mem_of_getElem? (i := 0) rfl))) dX3_note_22 rfl ?_
      refine g_iload_n hk dX3_note_25 rfl ?_
      refine sX_11 (j := (I 20).toNatClampNeg) hk (vp_in_iff.mpr ⟨by omega, by omega⟩) rfl dX3_note_26 ?_
      refine g_aload_n hk dX3_note_27 rfl ?_
      refine gX_r20_1 hk hin3 (List.mem_cons_of_mem _ (List.mem_append_left _ (List.mem_of_getElem? (i := 2) rfl))) dX3_note_28 ?_
      refine g_aload_n hk dX3_note_31 rfl ?_
      refine gX_i20 (v := (I 20)) hk hin3 (List.mem_cons_of_mem _ (List.mem_append_left _ (List.mem_of_getElem? (i := 0) rfl))) dX3_note_32 rfl ?_
      refine g_iload_n hk dX3_note_35 rfl ?_
      refine sX_12 (j := (I 20).toNatClampNeg) hk (vp_in_iff.mpr ⟨by omega, by omega⟩) rfl dX3_note_36 ?_
      refine g_aload_n hk dX3_note_37 rfl ?_
      refine gX_r20_2 hk hin3 (List.mem_cons_of_mem _ (List.mem_append_left _ (List.mem_of_getElem? (i := 3) rfl))) dX3_note_38 ?_
      refine g_aload_n hk dX3_note_41 rfl ?_
      refine gX_i20 (v := (I 20)) hk hin3 (List.mem_cons_of_mem _ (List.mem_append_left _ (List.mem_of_getElem? (i := 0) rfl))) dX3_note_42 rfl ?_
      refine g_iload_n hk dX3_note_45 rfl ?_
      refine sX_13 (j := (I 20).toNatClampNeg) hk (vp_in_iff.mpr ⟨by omega, by omega⟩) rfl dX3_note_46 ?_
      refine g_aload_n hk dX3_note_47 rfl ?_
      refine g_aload_n hk dX3_note_48 rfl ?_
      refine gX_i20 (v := (I 20)) hk hin3 (List.mem_cons_of_mem _ (List.mem_append_left _ (List.mem_of_getElem? (i := 0) rfl))) dX3_note_49 rfl ?_
      refine g_bipush (v := 39) hk dX3_note_52 (by decide) ?_
      refine g_icmp_ne (tgt := 61) (a := (I 20).toInt) (b := 39) hk dX3_note_54 (by decide) rfl rfl (fun c2077 => ?_) (fun c2077 => ?_)
      · skip
        replace hF := FE.pos hF c2077
        refine g_aload_n hk dX3_note_61 rfl ?_
        refine gX_i20 (v := (I 20)) hk hin3 (List.mem_cons_of_mem _ (List.mem_append_left _ (List.mem_of_getElem? (i := 0) rfl))) dX3_note_62 rfl ?_
        refine g_iconst (v := 1) hk dX3_note_65 (by decide) ?_
        refine g_iadd hk dX3_note_66 ?_
        refine g_topi (fun y2078 ey2078 => ?_)
        replace hF := FE.lt hF ey2078
        have hy2078 : y2078.toInt = (I 20).toInt + 1 := i32_add ey2078 rfl rfl (by omega) (by omega)
        refine pX_i20 hk hin3 (List.mem_cons_of_mem _ (List.mem_append_left _ (List.mem_of_getElem? (i := 0) rfl))) dX3_note_67 ?_
        refine g_aload_n hk dX3_note_70 rfl ?_
        refine g_aload_n hk dX3_note_71 rfl ?_
        refine gX_i21 (v := (I 21)) hk hin3 (List.mem_cons_of_mem _ (List.mem_append_left _ (List.mem_of_getElem? (i := 4) rfl))) dX3_note_72 rfl ?_
        refine g_iconst (v := 1) hk dX3_note_75 (by decide) ?_
        have b2079l := Int32.le_toInt (I 21)
        have b2079h := Int32.toInt_lt (I 21)
        refine g_iadd hk dX3_note_76 ?_
        refine g_topi (fun y2080 ey2080 => ?_)
        replace hF := FE.lt hF ey2080
        refine g_bipush (v := 40) hk dX3_note_77 (by decide) ?_
        have b2081l := Int32.le_toInt y2080
        have b2081h := Int32.toInt_lt y2080
        refine g_mmin hk (List.mem_cons_of_mem _ (List.mem_append_left _ (List.mem_of_getElem? (i := 5) rfl))) (List.mem_cons_of_mem _ (List.mem_append_left _ (List.mem_of_getElem? (i := 6) rfl))) (List.mem_cons_of_mem _ (List.mem_append_left _ (List.mem_of_getElem? (i := 7) rfl))) (List.mem_cons_of_mem _ (List.mem_append_left _ (List.mem_of_getElem? (i := 8) rfl))) (Nat.le_of_ble_eq_true rfl) (Nat.le_of_ble_eq_true rfl) (Nat.le_of_ble_eq_true rfl) (Nat.le_of_ble_eq_true rfl) dX3_note_79 ?_
        refine g_topi (fun y2082 ey2082 => ?_)
        replace hF := FE.lt hF ey2082
        have k2083 : (40 : Int32).toInt = 40 := rfl
        have hy2082 := i32_min ey2082
        refine pX_i21 hk hin3 (List.mem_cons_of_mem _ (List.mem_append_left _ (List.mem_of_getElem? (i := 4) rfl))) dX3_note_82 ?_
        exact g_vret hk hR ⟨(upd (upd I 20 y2078) 21 y2082), (up3 (up3 (up3 A 11 ((I 20).toNatClampNeg) z1) 12 ((I 20).toNatClampNeg) z2) 13 ((I 20).toNatClampNeg) z3), (show Md [20, 21] I (upd (upd I 20 y2078) 21 y2082) from (Md.up (Md.up Md.rf rfl) rfl)), (show Md [11, 12, 13] A (up3 (up3 (up3 A 11 ((I 20).toNatClampNeg) z1) 12 ((I 20).toNatClampNeg) z2) 13 ((I 20).toNatClampNeg) z3) from (Md.up3 (Md.up3 (Md.up3 Md.rf rfl) rfl) rfl)), ⟨(IvX_f0 (I := I) (A := A) hIv), (IvX_f18 (I := I) (A := A) hIv), (IvX_f30 (I := I) (A := A) hIv), (IvX_f31 (I := I) (A := A) hIv), (IvX_a4 (I := I) (A := A) hIv), (IvX_a9 (I := I) (A := A) hIv), trivial⟩, hF, rfl, rfl⟩ dX3_note_85
      · skip
        replace hF := FE.neg hF c2077
        refine g_iconst (v := 0) hk dX3_note_57 (by decide) ?_
        refine g_goto (tgt := 67) hk dX3_note_58 (by decide) ?_
        refine pX_i20 hk hin3 (List.mem_cons_of_mem _ (List.mem_append_left _ (List.mem_of_getElem? (i := 0) rfl))) dX3_note_67 ?_
        refine g_aload_n hk dX3_note_70 rfl ?_
        refine g_aload_n hk dX3_note_71 rfl ?_
        refine gX_i21 (v := (I 21)) hk hin3 (List.mem_cons_of_mem _ (List.mem_append_left _ (List.mem_of_getElem? (i := 4) rfl))) dX3_note_72 rfl ?_
        refine g_iconst (v := 1) hk dX3_note_75 (by decide) ?_
        have b2084l := Int32.le_toInt (I 21)
        have b2084h := Int32.toInt_lt (I 21)
        refine g_iadd hk dX3_note_76 ?_
        refine g_topi (fun y2085 ey2085 => ?_)
        replace hF := FE.lt hF ey2085
        refine g_bipush (v := 40) hk dX3_note_77 (by decide) ?_
        have b2086l := Int32.le_toInt y2085
        have b2086h := Int32.toInt_lt y2085
        refine g_mmin hk (List.mem_cons_of_mem _ (List.mem_append_left _ (List.mem_of_getElem? (i := 5) rfl))) (List.mem_cons_of_mem _ (List.mem_append_left _ (List.mem_of_getElem? (i := 6) rfl))) (List.mem_cons_of_mem _ (List.mem_append_left _ (List.mem_of_getElem? (i := 7) rfl))) (List.mem_cons_of_mem _ (List.mem_append_left _ (List.mem_of_getElem? (i := 8) rfl))) (Nat.le_of_ble_eq_true rfl) (Nat.le_of_ble_eq_true rfl) (Nat.le_of_ble_eq_true rfl) (Nat.le_of_ble_eq_true rfl) dX3_note_79 ?_
        refine g_topi (fun y2087 ey2087 => ?_)
        replace hF := FE.lt hF ey2087
        have k2088 : (40 : Int32).toInt = 40 := rfl
        have hy2087 := i32_min ey2087
        refine pX_i21 hk hin3 (List.mem_cons_of_mem _ (List.mem_append_left _ (List.mem_of_getElem? (i := 4) rfl))) dX3_note_82 ?_
        exact g_vret hk hR ⟨(upd (upd I 20 0) 21 y2087), (up3 (up3 (up3 A 11 ((I 20).toNatClampNeg) z1) 12 ((I 20).toNatClampNeg) z2) 13 ((I 20).toNatClampNeg) z3), (show Md [20, 21] I (upd (upd I 20 0) 21 y2087) from (Md.up (Md.up Md.rf rfl) rfl)), (show Md [11, 12, 13] A (up3 (up3 (up3 A 11 ((I 20).toNatClampNeg) z1) 12 ((I 20).toNatClampNeg) z2) 13 ((I 20).toNatClampNeg) z3) from (Md.up3 (Md.up3 (Md.up3 Md.rf rfl) rfl) rfl)), ⟨(IvX_f0 (I := I) (A := A) hIv), (IvX_f18 (I := I) (A := A) hIv), (IvX_f30 (I := I) (A := A) hIv), (IvX_f31 (I := I) (A := A) hIv), (IvX_a4 (I := I) (A := A) hIv), (IvX_a9 (I := I) (A := A) hIv), trivial⟩, hF, rfl, rfl⟩ dX3_note_85
    · skip
      replace hF := FE.neg hF c2076
      exact g_vret hk hR ⟨I, A, (show Md [20, 21] I I from Md.rf), (show Md [11, 12, 13] A A from Md.rf), hIv, hF, rfl, rfl⟩ dX3_note_16
noncomputable def fX11_appendPlace (I : Nat → Int32) (A : Nat → Nat → Int32) (z1 : Int32) : Int32 × (Nat → Int32) × (Nat → Nat → Int32) := f_bdX (fX6_append I A z1) fun y2069 I2072 A2072 => if y2069.toInt ≠ 0 then f_bdX (fX3_note I2072 A2072 0 0 0) fun _ I2091 A2091 => ((I2072 18), I2091, A2091) else ((-1), I2072, A2072)
def wo_k184_X11_appendPlace : List Cond := [Cond.fieldLink RX11 28 "WarpDesk" "series" "LWarpDesk$Series;", Cond.methodLink RX11 130 yX6_append, Cond.instanceMethod yX6_append, Cond.selects RX6 yX6_append yX6_append, Cond.initialized RX6, Cond.fieldLink RX11 49 "WarpDesk" "past" "LWarpDesk$Past;", Cond.methodLink RX11 134 yX3_note, Cond.instanceMethod yX3_note, Cond.selects RX3 yX3_note yX3_note, Cond.initialized RX3, Cond.fieldLink RX11 138 "WarpDesk$Series" "size" "I"]
def wz_k184_X11_appendPlace : List Cond := .code yX11_appendPlace cX11_appendPlace 2 (some .int) :: (wo_k184_X11_appendPlace ++ (wsX60 ++ (wsX110 ++ (wz_k172_X6_append ++ (wz_k185_X3_note ++ ([] : List Cond))))))
theorem zg_k184_X11_appendPlace : ∀ w ∈ wz_k184_X11_appendPlace, goodWord w = true := zg_cons rfl (zg_app (by decide +kernel) (zg_app zgU_wsX60 (zg_app zgU_wsX110 (zg_app zg_k172_X6_append (zg_app zg_k185_X3_note zg_nil)))))
theorem zi_k184_X11_appendPlace : ∀ w ∈ wz_k184_X11_appendPlace, w ∈ lw_tbl := zi_cons zw_822 (zi_app (zi_cons zw_489 (zi_cons zw_823 (zi_cons zw_778 (zi_cons zw_779 (zi_cons zw_109 (zi_cons zw_492 (zi_cons zw_824 (zi_cons zw_825 (zi_cons zw_826 (zi_cons zw_110 (zi_cons zw_284 zi_nil))))))))))) (zi_app inX6 (zi_app inX11 (zi_app zi_k172_X6_append (zi_app zi_k185_X3_note zi_nil)))))
set_option maxHeartbeats 4000000 in
set_option maxRecDepth 100000 in
theorem k184_X11_appendPlace (l : Launch) (D : va_G) (zt : Nat × Nat × Nat × (Nat → Nat) × (Nat → Nat)) (q : Nat → Nat) (d : Nat → ClassId) (I : Nat → Int32) (A : Nat → Nat → Int32) (z1 : Int32) (hIv : IvX I A) : GM l D zt (tyX d) yX11_appendPlace wz_k184_X11_appendPlace ({ frames := 2, cells := 0, slots := 0, locals := 37 } : Room) [.ref (q 0), .int z1] (wX q d I A) (fun v _ w' => ∃ (I' : Nat → Int32) (A' : Nat → Nat → Int32), Md [18, 20, 21] I I' ∧ Md [7, 11, 12, 13] A A' ∧ IvX I' A' ∧ ∃ y0 : Int32, ((-1) ≤ y0.toInt) ∧ (y0.toInt ≤ 160) ∧ FE (fX11_appendPlace I A z1) (y0, I', A') ∧ v = some (.int y0) ∧ w' = wX q d I' A') 0 0 := by
  refine GM.of (cc := cX11_appendPlace) (maxL := 2) (ret := (some .int)) (own := RX11) (lv := [(0, .ref (q 0)), (1, .int z1)]) (by decide) rfl rfl (Nat.le_of_ble_eq_true rfl) rfl (fun κ sz hk hR hN => ?_)
  have hin6 : ∀ w ∈ u_ws RX6 TX6 3, w ∈ wz_k184_X11_appendPlace := fun w h => (List.mem_cons_of_mem _ (List.mem_append_right _ (List.mem_append_left _ h)))
  have hin11 : ∀ w ∈ u_ws RX11 TX11 10, w ∈ wz_k184_X11_appendPlace := fun w h => (List.mem_cons_of_mem _ (List.mem_append_right _ (List.mem_append_right _ (List.mem_append_left _ h))))
  have hF : FE (fX11_appendPlace I A z1) (fX11_appendPlace I A z1) := FE.rf
  refine g_aload_n hk dX11_appendPlace_0 rfl ?_
  refine gX_r0_2 hk hin11 (List.mem_cons_of_mem _ (List.mem_append_left _ (List.mem_of_getElem? (i := 0) rfl))) dX11_appendPlace_1 ?_
  refine g_iload_n hk dX11_appendPlace_4 rfl ?_
  refine g_callV (n := 1) hk (k172_X6_append l D zt q d I A z1 hIv) (SP.same _) (fun _ h => h) (gi_V (List.mem_cons_of_mem _ (List.mem_append_left _ (List.mem_of_getElem? (i := 1) rfl))) (List.mem_cons_of_mem _ (List.mem_append_left _ (List.mem_of_getElem? (i := 2) rfl))) (List.mem_cons_of_mem _ (List.mem_append_left _ (List.mem_of_getElem? (i := 3) rfl))) (List.mem_cons_of_mem _ (List.mem_append_left _ (List.mem_of_getElem? (i := 4) rfl))) (gi_sub (fun w h => (List.mem_cons_of_mem _ (List.mem_append_right _ (List.mem_append_right _ (List.mem_append_right _ (List.mem_append_left _ h)))))) zg_k172_X6_append)) rfl rfl rfl (by decide +kernel) ⟨Nat.le_of_ble_eq_true rfl, Nat.le_of_ble_eq_true rfl⟩ 13 rfl rfl rfl rfl (Nat.le_of_ble_eq_true rfl) ⟨Nat.le_of_ble_eq_true rfl, Nat.le_of_ble_eq_true rfl⟩ dX11_appendPlace_5 (fun v ty' w' hp hk' => ?_)
  obtain ⟨I2072, A2072, hI2072, hA2072, hV2072, y2069, c2070, c2071, hC, rfl, rfl⟩ := hp
  replace hF := FE.bdX hF hC
  show GW κ 2 0 0 (wX q d I2072 A2072) 8 [(0, .ref (q 0)), (1, .int z1)] [.int y2069]
  refine g_if_ne (tgt := 13) (a := y2069.toInt) hk dX11_appendPlace_8 (by decide) rfl (fun c2073 => ?_) (fun c2073 => ?_)
  · skip
    replace hF := FE.pos hF c2073
    refine g_aload_n hk dX11_appendPlace_13 rfl ?_
    refine gX_r0_5 hk hin11 (List.mem_cons_of_mem _ (List.mem_append_left _ (List.mem_of_getElem? (i := 5) rfl))) dX11_appendPlace_14 ?_
    refine g_iconst (v := 0) hk dX11_appendPlace_17 (by decide) ?_
    refine g_iconst (v := 0) hk dX11_appendPlace_18 (by decide) ?_
    refine g_iconst (v := 0) hk dX11_appendPlace_19 (by decide) ?_
    have k2089 : (0 : Int32).toInt = 0 := rfl
    refine g_callV (n := 3) hk (k185_X3_note l D zt q d I2072 A2072 0 0 0 hV2072) (SP.same _) (fun _ h => h) (gi_V (List.mem_cons_of_mem _ (List.mem_append_left _ (List.mem_of_getElem? (i := 6) rfl))) (List.mem_cons_of_mem _ (List.mem_append_left _ (List.mem_of_getElem? (i := 7) rfl))) (List.mem_cons_of_mem _ (List.mem_append_left _ (List.mem_of_getElem? (i := 8) rfl))) (List.mem_cons_of_mem _ (List.mem_append_left _ (List.mem_of_getElem? (i := 9) rfl))) (gi_sub (fun w h => (List.mem_cons_of_mem _ (List.mem_append_right _ (List.mem_append_right _ (List.mem_append_right _ (List.mem_append_right _ (List.mem_append_left _ h))))))) zg_k185_X3_note)) rfl rfl rfl (by decide +kernel) ⟨Nat.le_of_ble_eq_true rfl, Nat.le_of_ble_eq_true rfl⟩ 20 rfl rfl rfl rfl (Nat.le_of_ble_eq_true rfl) ⟨Nat.le_of_ble_eq_true rfl, Nat.le_of_ble_eq_true rfl⟩ dX11_appendPlace_20 (fun v ty' w' hp hk' => ?_)
    obtain ⟨I2091, A2091, hI2091, hA2091, hV2091, hC, rfl, rfl⟩ := hp
    replace hF := FE.bdX hF hC
    show GW κ 2 0 0 (wX q d I2091 A2091) 23 [(0, .ref (q 0)), (1, .int z1)] []
    refine g_aload_n hk dX11_appendPlace_23 rfl ?_
    refine gX_r0_2 hk hin11 (List.mem_cons_of_mem _ (List.mem_append_left _ (List.mem_of_getElem? (i := 0) rfl))) dX11_appendPlace_24 ?_
    refine gX_i18 (v := (I2072 18)) hk hin6 (List.mem_cons_of_mem _ (List.mem_append_left _ (List.mem_of_getElem? (i := 10) rfl))) dX11_appendPlace_27 (hI2091 18 rfl) ?_
    have f2092 := IvX_f18 hV2072
    exact g_iret hk hR rfl ⟨I2091, A2091, (show Md [18, 20, 21] I I2091 from (Md.tr (Md.tr Md.rf hI2072 rfl) hI2091 rfl)), (show Md [7, 11, 12, 13] A A2091 from (Md.tr (Md.tr Md.rf hA2072 rfl) hA2091 rfl)), hV2091, (I2072 18), (by omega), (by omega), hF, rfl, rfl⟩ dX11_appendPlace_30
  · skip
    replace hF := FE.neg hF c2073
    refine g_iconst (v := (-1)) hk dX11_appendPlace_11 (by decide) ?_
    exact g_iret hk hR rfl ⟨I2072, A2072, (show Md [18, 20, 21] I I2072 from (Md.tr Md.rf hI2072 rfl)), (show Md [7, 11, 12, 13] A A2072 from (Md.tr Md.rf hA2072 rfl)), hV2072, (-1), (by decide), (by decide), hF, rfl, rfl⟩ dX11_appendPlace_12
noncomputable def fX11_push (I : Nat → Int32) (A : Nat → Nat → Int32) (z1 : Int32) : Int32 × (Nat → Int32) × (Nat → Nat → Int32) := if z1.toInt < (-999) then ((-1), I, A) else if z1.toInt ≤ 999 then f_bdX (fX11_appendPlace I A z1) fun y2093 I2096 A2096 => (y2093, I2096, A2096) else ((-1), I, A)
def wo_k183_X11_push : List Cond := [Cond.methodLink RX11 127 yX11_appendPlace, Cond.instanceMethod yX11_appendPlace, Cond.selects RX11 yX11_appendPlace yX11_appendPlace, Cond.initialized RX11]
def wz_k183_X11_push : List Cond := .code yX11_push cX11_push 2 (some .int) :: (wo_k183_X11_push ++ (wz_k184_X11_appendPlace ++ ([] : List Cond)))
theorem zg_k183_X11_push : ∀ w ∈ wz_k183_X11_push, goodWord w = true := zg_cons rfl (zg_app (by decide +kernel) (zg_app zg_k184_X11_appendPlace zg_nil))
theorem zi_k183_X11_push : ∀ w ∈ wz_k183_X11_push, w ∈ lw_tbl := zi_cons zw_818 (zi_app (zi_cons zw_819 (zi_cons zw_821 (zi_cons zw_23 (zi_cons zw_103 zi_nil)))) (zi_app zi_k184_X11_appendPlace zi_nil))
set_option maxHeartbeats 4000000 in
set_option maxRecDepth 100000 in
theorem k183_X11_push (l : Launch) (D : va_G) (zt : Nat × Nat × Nat × (Nat → Nat) × (Nat → Nat)) (q : Nat → Nat) (d : Nat → ClassId) (I : Nat → Int32) (A : Nat → Nat → Int32) (z1 : Int32) (hIv : IvX I A) : GM l D zt (tyX d) yX11_push wz_k183_X11_push ({ frames := 3, cells := 0, slots := 0, locals := 58 } : Room) [.ref (q 0), .int z1] (wX q d I A) (fun v _ w' => ∃ (I' : Nat → Int32) (A' : Nat → Nat → Int32), Md [18, 20, 21] I I' ∧ Md [7, 11, 12, 13] A A' ∧ IvX I' A' ∧ ∃ y0 : Int32, ((-1) ≤ y0.toInt) ∧ (y0.toInt ≤ 160) ∧ FE (fX11_push I A z1) (y0, I', A') ∧ v = some (.int y0) ∧ w' = wX q d I' A') 0 0 := by
  refine GM.of (cc := cX11_push) (maxL := 2) (ret := (some .int)) (own := RX11) (lv := [(0, .ref (q 0)), (1, .int z1)]) (by decide) rfl rfl (Nat.le_of_ble_eq_true rfl) rfl (fun κ sz hk hR hN => ?_)
  have hF : FE (fX11_push I A z1) (fX11_push I A z1) := FE.rf
  refine g_iload_n hk dX11_push_0 rfl ?_
  refine g_sipush (v := (-999)) hk dX11_push_1 (by decide) ?_
  have b2066l := Int32.le_toInt z1
  have b2066h := Int32.toInt_lt z1
  refine g_icmp_lt (tgt := 14) (a := z1.toInt) (b := (-999)) hk dX11_push_4 (by decide) rfl rfl (fun c2067 => ?_) (fun c2067 => ?_)
  · skip
    replace hF := FE.pos hF c2067
    refine g_iconst (v := (-1)) hk dX11_push_14 (by decide) ?_
    exact g_iret hk hR rfl ⟨I, A, (show Md [18, 20, 21] I I from Md.rf), (show Md [7, 11, 12, 13] A A from Md.rf), hIv, (-1), (by decide), (by decide), hF, rfl, rfl⟩ dX11_push_15
  · skip
    replace hF := FE.neg hF c2067
    refine g_iload_n hk dX11_push_7 rfl ?_
    refine g_sipush (v := 999) hk dX11_push_8 (by decide) ?_
    refine g_icmp_le (tgt := 16) (a := z1.toInt) (b := 999) hk dX11_push_11 (by decide) rfl rfl (fun c2068 => ?_) (fun c2068 => ?_)
    · skip
      replace hF := FE.pos hF c2068
      refine g_aload_n hk dX11_push_16 rfl ?_
      refine g_iload_n hk dX11_push_17 rfl ?_
      refine g_callV (n := 1) hk (k184_X11_appendPlace l D zt q d I A z1 hIv) (SP.same _) (fun _ h => h) (gi_V (List.mem_cons_of_mem _ (List.mem_append_left _ (List.mem_of_getElem? (i := 0) rfl))) (List.mem_cons_of_mem _ (List.mem_append_left _ (List.mem_of_getElem? (i := 1) rfl))) (List.mem_cons_of_mem _ (List.mem_append_left _ (List.mem_of_getElem? (i := 2) rfl))) (List.mem_cons_of_mem _ (List.mem_append_left _ (List.mem_of_getElem? (i := 3) rfl))) (gi_sub (fun w h => (List.mem_cons_of_mem _ (List.mem_append_right _ (List.mem_append_left _ h)))) zg_k184_X11_appendPlace)) rfl rfl rfl (by decide +kernel) ⟨Nat.le_of_ble_eq_true rfl, Nat.le_of_ble_eq_true rfl⟩ 0 rfl rfl rfl rfl (Nat.le_of_ble_eq_true rfl) ⟨Nat.le_of_ble_eq_true rfl, Nat.le_of_ble_eq_true rfl⟩ dX11_push_18 (fun v ty' w' hp hk' => ?_)
      obtain ⟨I2096, A2096, hI2096, hA2096, hV2096, y2093, c2094, c2095, hC, rfl, rfl⟩ := hp
      replace hF := FE.bdX hF hC
      show GW κ 2 0 0 (wX q d I2096 A2096) 21 [(0, .ref (q 0)), (1, .int z1)] [.int y2093]
      exact g_iret hk hR rfl ⟨I2096, A2096, (show Md [18, 20, 21] I I2096 from (Md.tr Md.rf hI2096 rfl)), (show Md [7, 11, 12, 13] A A2096 from (Md.tr Md.rf hA2096 rfl)), hV2096, y2093, (by omega), (by omega), hF, rfl, rfl⟩ dX11_push_21
    · skip
      replace hF := FE.neg hF c2068
      refine g_iconst (v := (-1)) hk dX11_push_14 (by decide) ?_
      exact g_iret hk hR rfl ⟨I, A, (show Md [18, 20, 21] I I from Md.rf), (show Md [7, 11, 12, 13] A A from Md.rf), hIv, (-1), (by decide), (by decide), hF, rfl, rfl⟩ dX11_push_15
noncomputable def fX11_gap (I : Nat → Int32) (A : Nat → Nat → Int32) : Int32 × (Nat → Int32) × (Nat → Nat → Int32) := f_bdX (fX11_appendPlace I A (-1000)) fun y2098 I2101 A2101 => (y2098, I2101, A2101)
def wz_k186_X11_gap : List Cond := .code yX11_gap cX11_gap 1 (some .int) :: (wo_k183_X11_push ++ (wz_k184_X11_appendPlace ++ ([] : List Cond)))
theorem zg_k186_X11_gap : ∀ w ∈ wz_k186_X11_gap, goodWord w = true := zg_cons rfl (zg_app (by decide +kernel) (zg_app zg_k184_X11_appendPlace zg_nil))
theorem zi_k186_X11_gap : ∀ w ∈ wz_k186_X11_gap, w ∈ lw_tbl := zi_cons zw_834 (zi_app (zi_cons zw_819 (zi_cons zw_821 (zi_cons zw_23 (zi_cons zw_103 zi_nil)))) (zi_app zi_k184_X11_appendPlace zi_nil))
set_option maxHeartbeats 4000000 in
set_option maxRecDepth 100000 in
theorem k186_X11_gap (l : Launch) (D : va_G) (zt : Nat × Nat × Nat × (Nat → Nat) × (Nat → Nat)) (q : Nat → Nat) (d : Nat → ClassId) (I : Nat → Int32) (A : Nat → Nat → Int32) (hIv : IvX I A) : GM l D zt (tyX d) yX11_gap wz_k186_X11_gap ({ frames := 3, cells := 0, slots := 0, locals := 58 } : Room) [.ref (q 0)] (wX q d I A) (fun v _ w' => ∃ (I' : Nat → Int32) (A' : Nat → Nat → Int32), Md [18, 20, 21] I I' ∧ Md [7, 11, 12, 13] A A' ∧ IvX I' A' ∧ ∃ y0 : Int32, ((-1) ≤ y0.toInt) ∧ (y0.toInt ≤ 160) ∧ FE (fX11_gap I A) (y0, I', A') ∧ v = some (.int y0) ∧ w' = wX q d I' A') 0 0 := by
  refine GM.of (cc := cX11_gap) (maxL := 1) (ret := (some .int)) (own := RX11) (lv := [(0, .ref (q 0))]) (by decide) rfl rfl (Nat.le_of_ble_eq_true rfl) rfl (fun κ sz hk hR hN => ?_)
  have hF : FE (fX11_gap I A) (fX11_gap I A) := FE.rf
  refine g_aload_n hk dX11_gap_0 rfl ?_
  refine g_sipush (v := (-1000)) hk dX11_gap_1 (by decide) ?_
  have k2097 : ((-1000) : Int32).toInt = (-1000) := rfl
  refine g_callV (n := 1) hk (k184_X11_appendPlace l D zt q d I A (-1000) hIv) (SP.same _) (fun _ h => h) (gi_V (List.mem_cons_of_mem _ (List.mem_append_left _ (List.mem_of_getElem? (i := 0) rfl))) (List.mem_cons_of_mem _ (List.mem_append_left _ (List.mem_of_getElem? (i := 1) rfl))) (List.mem_cons_of_mem _ (List.mem_append_left _ (List.mem_of_getElem? (i := 2) rfl))) (List.mem_cons_of_mem _ (List.mem_append_left _ (List.mem_of_getElem? (i := 3) rfl))) (gi_sub (fun w h => (List.mem_cons_of_mem _ (List.mem_append_right _ (List.mem_append_left _ h)))) zg_k184_X11_appendPlace)) rfl rfl rfl (by decide +kernel) ⟨Nat.le_of_ble_eq_true rfl, Nat.le_of_ble_eq_true rfl⟩ 0 rfl rfl rfl rfl (Nat.le_of_ble_eq_true rfl) ⟨Nat.le_of_ble_eq_true rfl, Nat.le_of_ble_eq_true rfl⟩ dX11_gap_4 (fun v ty' w' hp hk' => ?_)
  obtain ⟨I2101, A2101, hI2101, hA2101, hV2101, y2098, c2099, c2100, hC, rfl, rfl⟩ := hp
  replace hF := FE.bdX hF hC
  show GW κ 1 0 0 (wX q d I2101 A2101) 7 [(0, .ref (q 0))] [.int y2098]
  exact g_iret hk hR rfl ⟨I2101, A2101, (show Md [18, 20, 21] I I2101 from (Md.tr Md.rf hI2101 rfl)), (show Md [7, 11, 12, 13] A A2101 from (Md.tr Md.rf hA2101 rfl)), hV2101, y2098, (by omega), (by omega), hF, rfl, rfl⟩ dX11_gap_7
noncomputable def fX6_hasReading (I : Nat → Int32) (A : Nat → Nat → Int32) (z1 : Int32) : Int32 := f_lt (fX6_valueAt I A z1) fun y2107 => if y2107.toInt = (-1000) then 0 else 1
def wo_k188_X6_hasReading : List Cond := [Cond.methodLink RX6 33 yX6_valueAt, Cond.instanceMethod yX6_valueAt, Cond.selects RX6 yX6_valueAt yX6_valueAt, Cond.initialized RX6]
def wz_k188_X6_hasReading : List Cond := .code yX6_hasReading cX6_hasReading 2 (some .boolean) :: (wo_k188_X6_hasReading ++ (wz_k179_X6_valueAt ++ ([] : List Cond)))
theorem zg_k188_X6_hasReading : ∀ w ∈ wz_k188_X6_hasReading, goodWord w = true := zg_cons rfl (zg_app (by decide +kernel) (zg_app zg_k179_X6_valueAt zg_nil))
theorem zi_k188_X6_hasReading : ∀ w ∈ wz_k188_X6_hasReading, w ∈ lw_tbl := zi_cons zw_842 (zi_app (zi_cons zw_843 (zi_cons zw_807 (zi_cons zw_808 (zi_cons zw_109 zi_nil)))) (zi_app zi_k179_X6_valueAt zi_nil))
set_option maxHeartbeats 4000000 in
set_option maxRecDepth 100000 in
theorem k188_X6_hasReading (l : Launch) (D : va_G) (zt : Nat × Nat × Nat × (Nat → Nat) × (Nat → Nat)) (q : Nat → Nat) (d : Nat → ClassId) (I : Nat → Int32) (A : Nat → Nat → Int32) (z1 : Int32) (hIv : IvX I A) : GM l D zt (tyX d) yX6_hasReading wz_k188_X6_hasReading ({ frames := 1, cells := 0, slots := 0, locals := 21 } : Room) [.ref (q 13), .int z1] (wX q d I A) (fun v _ w' => (FE (fX6_hasReading I A z1) (0) ∧ v = some (.int 0) ∧ w' = wX q d I A) ∨ (FE (fX6_hasReading I A z1) (1) ∧ v = some (.int 1) ∧ w' = wX q d I A)) 0 0 := by
  refine GM.of (cc := cX6_hasReading) (maxL := 2) (ret := (some .boolean)) (own := RX6) (lv := [(0, .ref (q 13)), (1, .int z1)]) (by decide) rfl rfl (Nat.le_of_ble_eq_true rfl) rfl (fun κ sz hk hR hN => ?_)
  have hF : FE (fX6_hasReading I A z1) (fX6_hasReading I A z1) := FE.rf
  refine g_aload_n hk dX6_hasReading_0 rfl ?_
  refine g_iload_n hk dX6_hasReading_1 rfl ?_
  refine g_callV (n := 1) hk (k179_X6_valueAt l D zt q d I A z1 hIv) (SP.same _) (fun _ h => h) (gi_V (List.mem_cons_of_mem _ (List.mem_append_left _ (List.mem_of_getElem? (i := 0) rfl))) (List.mem_cons_of_mem _ (List.mem_append_left _ (List.mem_of_getElem? (i := 1) rfl))) (List.mem_cons_of_mem _ (List.mem_append_left _ (List.mem_of_getElem? (i := 2) rfl))) (List.mem_cons_of_mem _ (List.mem_append_left _ (List.mem_of_getElem? (i := 3) rfl))) (gi_sub (fun w h => (List.mem_cons_of_mem _ (List.mem_append_right _ (List.mem_append_left _ h)))) zg_k179_X6_valueAt)) rfl rfl rfl (by decide +kernel) ⟨Nat.le_of_ble_eq_true rfl, Nat.le_of_ble_eq_true rfl⟩ 13 rfl rfl rfl rfl (Nat.le_of_ble_eq_true rfl) ⟨Nat.le_of_ble_eq_true rfl, Nat.le_of_ble_eq_true rfl⟩ dX6_hasReading_2 (fun v ty' w' hp hk' => ?_)
  obtain ⟨y2107, hC, rfl, rfl⟩ := hp
  replace hF := FE.lt hF (fe_s hC)
  show GW κ 2 0 0 (wX q d I A) 5 [(0, .ref (q 13)), (1, .int z1)] [.int y2107]
  refine g_sipush (v := (-1000)) hk dX6_hasReading_5 (by decide) ?_
  have b2108l := Int32.le_toInt y2107
  have b2108h := Int32.toInt_lt y2107
  refine g_icmp_eq (tgt := 15) (a := y2107.toInt) (b := (-1000)) hk dX6_hasReading_8 (by decide) rfl rfl (fun c2109 => ?_) (fun c2109 => ?_)
  · skip
    replace hF := FE.pos hF c2109
    refine g_iconst (v := 0) hk dX6_hasReading_15 (by decide) ?_
    exact g_iret hk hR rfl (Or.inl ⟨hF, rfl, rfl⟩) dX6_hasReading_16
  · skip
    replace hF := FE.neg hF c2109
    refine g_iconst (v := 1) hk dX6_hasReading_11 (by decide) ?_
    refine g_goto (tgt := 16) hk dX6_hasReading_12 (by decide) ?_
    exact g_iret hk hR rfl (Or.inr (⟨hF, rfl, rfl⟩)) dX6_hasReading_16
noncomputable def fX_floorDiv (I : Nat → Int32) (A : Nat → Nat → Int32) (z0 : Int32) (z1 : Int32) : Int32 := f_lt (z0 / z1) fun y2126 => f_lt (z0 ^^^ z1) fun y2128 => if 0 ≤ y2128.toInt then y2126 else f_lt (y2126 * z1) fun y2133 => if y2133.toInt = z0.toInt then y2126 else f_lt (y2126 - (1 : Int32)) fun y2136 => y2136
def wz_k189_J9_floorDiv_7cf53 : List Cond := .code yJ9_floorDiv_7cf53 cJ9_floorDiv_7cf53 3 (some .int) :: (wo_k126_X10_isLetter ++ ([] : List Cond))
theorem zg_k189_J9_floorDiv_7cf53 : ∀ w ∈ wz_k189_J9_floorDiv_7cf53, goodWord w = true := zg_cons rfl (zg_app (by decide +kernel) zg_nil)
theorem zi_k189_J9_floorDiv_7cf53 : ∀ w ∈ wz_k189_J9_floorDiv_7cf53, w ∈ lw_tbl := zi_cons zw_846 (zi_app zi_nil zi_nil)
set_option maxHeartbeats 4000000 in
set_option maxRecDepth 100000 in
theorem k189_J9_floorDiv_7cf53 (l : Launch) (D : va_G) (zt : Nat × Nat × Nat × (Nat → Nat) × (Nat → Nat)) (q : Nat → Nat) (d : Nat → ClassId) (I : Nat → Int32) (A : Nat → Nat → Int32) (z0 : Int32) (z1 : Int32) (hIv : IvX I A) (hp0 : 1 ≤ z1.toInt) : GM l D zt (tyX d) yJ9_floorDiv_7cf53 wz_k189_J9_floorDiv_7cf53 ({ frames := 0, cells := 0, slots := 0, locals := 0 } : Room) [.int z0, .int z1] (wX q d I A) (fun v _ w' => ∃ y0 : Int32, FE (fX_floorDiv I A z0 z1) y0 ∧ v = some (.int y0) ∧ w' = wX q d I A) 0 0 := by
  refine GM.ofF (cc := cJ9_floorDiv_7cf53) (maxL := 3) (ret := (some .int)) (own := RJ9) (lv := [(0, .int z0), (1, .int z1)]) (by decide +kernel) rfl rfl (Nat.le_of_ble_eq_true rfl) rfl (fun κ sz hk hR hN => ?_)
  have hF : FE (fX_floorDiv I A z0 z1) (fX_floorDiv I A z0 z1) := FE.rf
  refine g_iload_n hk dJ9_floorDiv_7cf53_0 rfl ?_
  refine g_iload_n hk dJ9_floorDiv_7cf53_1 rfl ?_
  have b2125l := Int32.le_toInt z1
  have b2125h := Int32.toInt_lt z1
  refine g_idiv hk dJ9_floorDiv_7cf53_2 (i32_ne0 (by omega)) ?_
  refine g_topi (fun y2126 ey2126 => ?_)
  replace hF := FE.lt hF ey2126
  refine g_istore_n (lv' := [(2, .int y2126), (0, .int z0), (1, .int z1)]) hk dJ9_floorDiv_7cf53_3 (by decide) rfl ?_
  refine g_iload_n hk dJ9_floorDiv_7cf53_4 rfl ?_
  refine g_iload_n hk dJ9_floorDiv_7cf53_5 rfl ?_
  have b2127l := Int32.le_toInt z0
  have b2127h := Int32.toInt_lt z0
  refine g_ixor hk dJ9_floorDiv_7cf53_6 ?_
  refine g_topi (fun y2128 ey2128 => ?_)
  replace hF := FE.lt hF ey2128
  have b2129l := Int32.le_toInt y2128
  have b2129h := Int32.toInt_lt y2128
  refine g_if_ge (tgt := 21) (a := y2128.toInt) hk dJ9_floorDiv_7cf53_7 (by decide) rfl (fun c2130 => ?_) (fun c2130 => ?_)
  · skip
    replace hF := FE.pos hF c2130
    refine g_iload_n hk dJ9_floorDiv_7cf53_21 rfl ?_
    have b2131l := Int32.le_toInt y2126
    have b2131h := Int32.toInt_lt y2126
    exact g_iret hk hR rfl ⟨y2126, hF, rfl, rfl⟩ dJ9_floorDiv_7cf53_22
  · skip
    replace hF := FE.neg hF c2130
    refine g_iload_n hk dJ9_floorDiv_7cf53_10 rfl ?_
    refine g_iload_n hk dJ9_floorDiv_7cf53_11 rfl ?_
    have b2132l := Int32.le_toInt y2126
    have b2132h := Int32.toInt_lt y2126
    refine g_imul hk dJ9_floorDiv_7cf53_12 ?_
    refine g_topi (fun y2133 ey2133 => ?_)
    replace hF := FE.lt hF ey2133
    refine g_iload_n hk dJ9_floorDiv_7cf53_13 rfl ?_
    have b2134l := Int32.le_toInt y2133
    have b2134h := Int32.toInt_lt y2133
    refine g_icmp_eq (tgt := 21) (a := y2133.toInt) (b := z0.toInt) hk dJ9_floorDiv_7cf53_14 (by decide) rfl rfl (fun c2135 => ?_) (fun c2135 => ?_)
    · skip
      replace hF := FE.pos hF c2135
      refine g_iload_n hk dJ9_floorDiv_7cf53_21 rfl ?_
      exact g_iret hk hR rfl ⟨y2126, hF, rfl, rfl⟩ dJ9_floorDiv_7cf53_22
    · skip
      replace hF := FE.neg hF c2135
      refine g_iload_n hk dJ9_floorDiv_7cf53_17 rfl ?_
      refine g_iconst (v := 1) hk dJ9_floorDiv_7cf53_18 (by decide) ?_
      refine g_isub hk dJ9_floorDiv_7cf53_19 ?_
      refine g_topi (fun y2136 ey2136 => ?_)
      replace hF := FE.lt hF ey2136
      have hy2136 := i32_sub0 ey2136
      have b2137l := Int32.le_toInt y2136
      have b2137h := Int32.toInt_lt y2136
      exact g_iret hk hR rfl ⟨y2136, hF, rfl, rfl⟩ dJ9_floorDiv_7cf53_20
noncomputable def fX6_putAt (I : Nat → Int32) (A : Nat → Nat → Int32) (z1 : Int32) (z2 : Int32) : Int32 × (Nat → Int32) × (Nat → Nat → Int32) := if z1.toInt < 0 then (0, I, A) else if (I 18).toInt ≤ z1.toInt then (0, I, A) else f_lt ((I 17) + z1) fun y2145 => f_lt (y2145 &&& (255 : Int32)) fun y2147 => (0, I, (up3 A 7 (y2147.toNatClampNeg) z2))
def wz_k190_X6_putAt : List Cond := .code yX6_putAt cX6_putAt 3 none :: (wo_k172_X6_append ++ (wsX60 ++ ([] : List Cond)))
theorem zg_k190_X6_putAt : ∀ w ∈ wz_k190_X6_putAt, goodWord w = true := zg_cons rfl (zg_app (by decide +kernel) (zg_app zgU_wsX60 zg_nil))
theorem zi_k190_X6_putAt : ∀ w ∈ wz_k190_X6_putAt, w ∈ lw_tbl := zi_cons zw_850 (zi_app (zi_cons zw_282 (zi_cons zw_280 (zi_cons zw_281 zi_nil))) (zi_app inX6 zi_nil))
set_option maxHeartbeats 4000000 in
set_option maxRecDepth 100000 in
theorem k190_X6_putAt (l : Launch) (D : va_G) (zt : Nat × Nat × Nat × (Nat → Nat) × (Nat → Nat)) (q : Nat → Nat) (d : Nat → ClassId) (I : Nat → Int32) (A : Nat → Nat → Int32) (z1 : Int32) (z2 : Int32) (hIv : IvX I A) : GM l D zt (tyX d) yX6_putAt wz_k190_X6_putAt ({ frames := 0, cells := 0, slots := 0, locals := 0 } : Room) [.ref (q 13), .int z1, .int z2] (wX q d I A) (fun v _ w' => ∃ (I' : Nat → Int32) (A' : Nat → Nat → Int32), Md [] I I' ∧ Md [7] A A' ∧ IvX I' A' ∧ FE (fX6_putAt I A z1 z2) (0, I', A') ∧ v = none ∧ w' = wX q d I' A') 0 0 := by
  refine GM.of (cc := cX6_putAt) (maxL := 3) (ret := none) (own := RX6) (lv := [(0, .ref (q 13)), (1, .int z1), (2, .int z2)]) (by decide) rfl rfl (Nat.le_of_ble_eq_true rfl) rfl (fun κ sz hk hR hN => ?_)
  have hin6 : ∀ w ∈ u_ws RX6 TX6 3, w ∈ wz_k190_X6_putAt := fun w h => (List.mem_cons_of_mem _ (List.mem_append_right _ (List.mem_append_left _ h)))
  have hF : FE (fX6_putAt I A z1 z2) (fX6_putAt I A z1 z2) := FE.rf
  refine g_iload_n hk dX6_putAt_0 rfl ?_
  have b2140l := Int32.le_toInt z1
  have b2140h := Int32.toInt_lt z1
  refine g_if_lt (tgt := 28) (a := z1.toInt) hk dX6_putAt_1 (by decide) rfl (fun c2141 => ?_) (fun c2141 => ?_)
  · skip
    replace hF := FE.pos hF c2141
    exact g_vret hk hR ⟨I, A, (show Md [] I I from Md.rf), (show Md [7] A A from Md.rf), hIv, hF, rfl, rfl⟩ dX6_putAt_28
  · skip
    replace hF := FE.neg hF c2141
    refine g_iload_n hk dX6_putAt_4 rfl ?_
    refine g_aload_n hk dX6_putAt_5 rfl ?_
    refine gX_i18 (v := (I 18)) hk hin6 (List.mem_cons_of_mem _ (List.mem_append_left _ (List.mem_of_getElem? (i := 0) rfl))) dX6_putAt_6 rfl ?_
    have f2142 := IvX_f18 hIv
    refine g_icmp_ge (tgt := 28) (a := z1.toInt) (b := (I 18).toInt) hk dX6_putAt_9 (by decide) rfl rfl (fun c2143 => ?_) (fun c2143 => ?_)
    · skip
      replace hF := FE.pos hF c2143
      exact g_vret hk hR ⟨I, A, (show Md [] I I from Md.rf), (show Md [7] A A from Md.rf), hIv, hF, rfl, rfl⟩ dX6_putAt_28
    · skip
      replace hF := FE.neg hF c2143
      refine g_aload_n hk dX6_putAt_12 rfl ?_
      refine gX_r13_0 hk hin6 (List.mem_cons_of_mem _ (List.mem_append_left _ (List.mem_of_getElem? (i := 1) rfl))) dX6_putAt_13 ?_
      refine g_aload_n hk dX6_putAt_16 rfl ?_
      refine gX_i17 (v := (I 17)) hk hin6 (List.mem_cons_of_mem _ (List.mem_append_left _ (List.mem_of_getElem? (i := 2) rfl))) dX6_putAt_17 rfl ?_
      refine g_iload_n hk dX6_putAt_20 rfl ?_
      have b2144l := Int32.le_toInt (I 17)
      have b2144h := Int32.toInt_lt (I 17)
      refine g_iadd hk dX6_putAt_21 ?_
      refine g_topi (fun y2145 ey2145 => ?_)
      replace hF := FE.lt hF ey2145
      refine g_sipush (v := 255) hk dX6_putAt_22 (by decide) ?_
      have b2146l := Int32.le_toInt y2145
      have b2146h := Int32.toInt_lt y2145
      refine g_iand hk dX6_putAt_25 ?_
      refine g_topi (fun y2147 ey2147 => ?_)
      replace hF := FE.lt hF ey2147
      have hy2147 : 0 ≤ y2147.toInt ∧ y2147.toInt ≤ 255 := i32_mask 8 ey2147 (by decide) (by decide)
      refine g_iload_n hk dX6_putAt_26 rfl ?_
      refine sX_7 (j := y2147.toNatClampNeg) hk (vp_in_iff.mpr ⟨by omega, by omega⟩) rfl dX6_putAt_27 ?_
      exact g_vret hk hR ⟨I, (up3 A 7 (y2147.toNatClampNeg) z2), (show Md [] I I from Md.rf), (show Md [7] A (up3 A 7 (y2147.toNatClampNeg) z2) from (Md.up3 Md.rf rfl)), ⟨(IvX_f0 (I := I) (A := A) hIv), (IvX_f18 (I := I) (A := A) hIv), (IvX_f30 (I := I) (A := A) hIv), (IvX_f31 (I := I) (A := A) hIv), (IvX_a4 (I := I) (A := A) hIv), (IvX_a9 (I := I) (A := A) hIv), trivial⟩, hF, rfl, rfl⟩ dX6_putAt_28
noncomputable def fX11_mend (I : Nat → Int32) (A : Nat → Nat → Int32) (z1 : Int32) : Int32 × (Nat → Int32) × (Nat → Nat → Int32) := if z1.toInt < 1 then ((-1000), I, A) else f_lt ((I 18) - (1 : Int32)) fun y2105 => if y2105.toInt ≤ z1.toInt then ((-1000), I, A) else if fX6_hasReading I A z1 = 0 then f_lt (z1 - (1 : Int32)) fun y2112 => if fX6_hasReading I A y2112 = 0 then ((-1000), I, A) else f_lt (z1 + (1 : Int32)) fun y2115 => if fX6_hasReading I A y2115 = 0 then ((-1000), I, A) else f_lt (z1 - (1 : Int32)) fun y2118 => f_lt (fX6_valueAt I A y2118) fun y2119 => f_lt (z1 + (1 : Int32)) fun y2120 => f_lt (fX6_valueAt I A y2120) fun y2121 => f_lt (y2119 + y2121) fun y2124 => f_lt (fX_floorDiv I A y2124 2) fun y2139 => f_bdX (fX6_putAt I A z1 y2139) fun _ I2149 A2149 => f_bdX (fX3_note I2149 A2149 1 z1 0) fun _ I2153 A2153 => (y2139, I2153, A2153) else ((-1000), I, A)
def wo_k187_X11_mend : List Cond := [Cond.fieldLink RX11 28 "WarpDesk" "series" "LWarpDesk$Series;", Cond.fieldLink RX11 138 "WarpDesk$Series" "size" "I", Cond.methodLink RX11 139 yX6_hasReading, Cond.instanceMethod yX6_hasReading, Cond.selects RX6 yX6_hasReading yX6_hasReading, Cond.initialized RX6, Cond.methodLink RX11 120 yX6_valueAt, Cond.instanceMethod yX6_valueAt, Cond.selects RX6 yX6_valueAt yX6_valueAt, Cond.methodLink RX11 142 yJ9_floorDiv_7cf53, Cond.static yJ9_floorDiv_7cf53, Cond.initialized RJ9, Cond.methodLink RX11 147 yX6_putAt, Cond.instanceMethod yX6_putAt, Cond.selects RX6 yX6_putAt yX6_putAt, Cond.fieldLink RX11 49 "WarpDesk" "past" "LWarpDesk$Past;", Cond.methodLink RX11 134 yX3_note, Cond.instanceMethod yX3_note, Cond.selects RX3 yX3_note yX3_note, Cond.initialized RX3]
def wz_k187_X11_mend : List Cond := .code yX11_mend cX11_mend 3 (some .int) :: (wo_k187_X11_mend ++ (wsX60 ++ (wsX110 ++ (wz_k188_X6_hasReading ++ (wz_k179_X6_valueAt ++ (wz_k189_J9_floorDiv_7cf53 ++ (wz_k190_X6_putAt ++ (wz_k185_X3_note ++ ([] : List Cond)))))))))
theorem zg_k187_X11_mend : ∀ w ∈ wz_k187_X11_mend, goodWord w = true := zg_cons rfl (zg_app (by decide +kernel) (zg_app zgU_wsX60 (zg_app zgU_wsX110 (zg_app zg_k188_X6_hasReading (zg_app zg_k179_X6_valueAt (zg_app zg_k189_J9_floorDiv_7cf53 (zg_app zg_k190_X6_putAt (zg_app zg_k185_X3_note zg_nil))))))))
theorem zi_k187_X11_mend : ∀ w ∈ wz_k187_X11_mend, w ∈ lw_tbl := zi_cons zw_838 (zi_app (zi_cons zw_489 (zi_cons zw_284 (zi_cons zw_839 (zi_cons zw_840 (zi_cons zw_841 (zi_cons zw_109 (zi_cons zw_806 (zi_cons zw_807 (zi_cons zw_808 (zi_cons zw_844 (zi_cons zw_845 (zi_cons zw_120 (zi_cons zw_847 (zi_cons zw_848 (zi_cons zw_849 (zi_cons zw_492 (zi_cons zw_824 (zi_cons zw_825 (zi_cons zw_826 (zi_cons zw_110 zi_nil)))))))))))))))))))) (zi_app inX6 (zi_app inX11 (zi_app zi_k188_X6_hasReading (zi_app zi_k179_X6_valueAt (zi_app zi_k189_J9_floorDiv_7cf53 (zi_app zi_k190_X6_putAt (zi_app zi_k185_X3_note zi_nil))))))))
set_option maxHeartbeats 4000000 in
set_option maxRecDepth 100000 in
theorem k187_X11_mend (l : Launch) (D : va_G) (zt : Nat × Nat × Nat × (Nat → Nat) × (Nat → Nat)) (q : Nat → Nat) (d : Nat → ClassId) (I : Nat → Int32) (A : Nat → Nat → Int32) (z1 : Int32) (hIv : IvX I A) : GM l D zt (tyX d) yX11_mend wz_k187_X11_mend ({ frames := 2, cells := 0, slots := 0, locals := 42 } : Room) [.ref (q 0), .int z1] (wX q d I A) (fun v _ w' => ∃ (I' : Nat → Int32) (A' : Nat → Nat → Int32), Md [20, 21] I I' ∧ Md [7, 11, 12, 13] A A' ∧ IvX I' A' ∧ ∃ y0 : Int32, FE (fX11_mend I A z1) (y0, I', A') ∧ v = some (.int y0) ∧ w' = wX q d I' A') 0 0 := by
  refine GM.of (cc := cX11_mend) (maxL := 3) (ret := (some .int)) (own := RX11) (lv := [(0, .ref (q 0)), (1, .int z1)]) (by decide) rfl rfl (Nat.le_of_ble_eq_true rfl) rfl (fun κ sz hk hR hN => ?_)
  have hin6 : ∀ w ∈ u_ws RX6 TX6 3, w ∈ wz_k187_X11_mend := fun w h => (List.mem_cons_of_mem _ (List.mem_append_right _ (List.mem_append_left _ h)))
  have hin11 : ∀ w ∈ u_ws RX11 TX11 10, w ∈ wz_k187_X11_mend := fun w h => (List.mem_cons_of_mem _ (List.mem_append_right _ (List.mem_append_right _ (List.mem_append_left _ h))))
  have hF : FE (fX11_mend I A z1) (fX11_mend I A z1) := FE.rf
  refine g_iload_n hk dX11_mend_0 rfl ?_
  refine g_iconst (v := 1) hk dX11_mend_1 (by decide) ?_
  have b2102l := Int32.le_toInt z1
  have b2102h := Int32.toInt_lt z1
  refine g_icmp_lt (tgt := 29) (a := z1.toInt) (b := 1) hk dX11_mend_2 (by decide) rfl rfl (fun c2103 => ?_) (fun c2103 => ?_)
  · skip
    replace hF := FE.pos hF c2103
    refine g_sipush (v := (-1000)) hk dX11_mend_29 (by decide) ?_
    exact g_iret hk hR rfl ⟨I, A, (show Md [20, 21] I I from Md.rf), (show Md [7, 11, 12, 13] A A from Md.rf), hIv, (-1000), hF, rfl, rfl⟩ dX11_mend_32
  · skip
    replace hF := FE.neg hF c2103
    refine g_iload_n hk dX11_mend_5 rfl ?_
    refine g_aload_n hk dX11_mend_6 rfl ?_
    refine gX_r0_2 hk hin11 (List.mem_cons_of_mem _ (List.mem_append_left _ (List.mem_of_getElem? (i := 0) rfl))) dX11_mend_7 ?_
    refine gX_i18 (v := (I 18)) hk hin6 (List.mem_cons_of_mem _ (List.mem_append_left _ (List.mem_of_getElem? (i := 1) rfl))) dX11_mend_10 rfl ?_
    have f2104 := IvX_f18 hIv
    refine g_iconst (v := 1) hk dX11_mend_13 (by decide) ?_
    refine g_isub hk dX11_mend_14 ?_
    refine g_topi (fun y2105 ey2105 => ?_)
    replace hF := FE.lt hF ey2105
    have hy2105 : y2105.toInt = (I 18).toInt - 1 := i32_sub ey2105 rfl rfl (by omega) (by omega)
    refine g_icmp_ge (tgt := 29) (a := z1.toInt) (b := y2105.toInt) hk dX11_mend_15 (by decide) rfl rfl (fun c2106 => ?_) (fun c2106 => ?_)
    · skip
      replace hF := FE.pos hF c2106
      refine g_sipush (v := (-1000)) hk dX11_mend_29 (by decide) ?_
      exact g_iret hk hR rfl ⟨I, A, (show Md [20, 21] I I from Md.rf), (show Md [7, 11, 12, 13] A A from Md.rf), hIv, (-1000), hF, rfl, rfl⟩ dX11_mend_32
    · skip
      replace hF := FE.neg hF c2106
      refine g_aload_n hk dX11_mend_18 rfl ?_
      refine gX_r0_2 hk hin11 (List.mem_cons_of_mem _ (List.mem_append_left _ (List.mem_of_getElem? (i := 0) rfl))) dX11_mend_19 ?_
      refine g_iload_n hk dX11_mend_22 rfl ?_
      refine g_callV (n := 1) hk (k188_X6_hasReading l D zt q d I A z1 hIv) (SP.same _) (fun _ h => h) (gi_V (List.mem_cons_of_mem _ (List.mem_append_left _ (List.mem_of_getElem? (i := 2) rfl))) (List.mem_cons_of_mem _ (List.mem_append_left _ (List.mem_of_getElem? (i := 3) rfl))) (List.mem_cons_of_mem _ (List.mem_append_left _ (List.mem_of_getElem? (i := 4) rfl))) (List.mem_cons_of_mem _ (List.mem_append_left _ (List.mem_of_getElem? (i := 5) rfl))) (gi_sub (fun w h => (List.mem_cons_of_mem _ (List.mem_append_right _ (List.mem_append_right _ (List.mem_append_right _ (List.mem_append_left _ h)))))) zg_k188_X6_hasReading)) rfl rfl rfl (by decide +kernel) ⟨Nat.le_of_ble_eq_true rfl, Nat.le_of_ble_eq_true rfl⟩ 13 rfl rfl rfl rfl (Nat.le_of_ble_eq_true rfl) ⟨Nat.le_of_ble_eq_true rfl, Nat.le_of_ble_eq_true rfl⟩ dX11_mend_23 (fun v ty' w' hp hk' => ?_)
      rcases hp with ⟨hC, rfl, rfl⟩ | ⟨hC, rfl, rfl⟩
      · skip
        replace hF := FE.pos hF hC
        show GW κ 3 0 0 (wX q d I A) 26 [(0, .ref (q 0)), (1, .int z1)] [.int 0]
        refine g_if_eq (tgt := 33) (a := 0) hk dX11_mend_26 (by decide) rfl (fun _ => ?_) (fun z9 => absurd (show (0 : Int) = (0 : Int) from by decide) z9)
        refine g_aload_n hk dX11_mend_33 rfl ?_
        refine gX_r0_2 hk hin11 (List.mem_cons_of_mem _ (List.mem_append_left _ (List.mem_of_getElem? (i := 0) rfl))) dX11_mend_34 ?_
        refine g_iload_n hk dX11_mend_37 rfl ?_
        refine g_iconst (v := 1) hk dX11_mend_38 (by decide) ?_
        refine g_isub hk dX11_mend_39 ?_
        refine g_topi (fun y2112 ey2112 => ?_)
        replace hF := FE.lt hF ey2112
        have hy2112 : y2112.toInt = z1.toInt - 1 := i32_sub ey2112 rfl rfl (by omega) (by omega)
        refine g_callV (n := 1) hk (k188_X6_hasReading l D zt q d I A y2112 hIv) (SP.same _) (fun _ h => h) (gi_V (List.mem_cons_of_mem _ (List.mem_append_left _ (List.mem_of_getElem? (i := 2) rfl))) (List.mem_cons_of_mem _ (List.mem_append_left _ (List.mem_of_getElem? (i := 3) rfl))) (List.mem_cons_of_mem _ (List.mem_append_left _ (List.mem_of_getElem? (i := 4) rfl))) (List.mem_cons_of_mem _ (List.mem_append_left _ (List.mem_of_getElem? (i := 5) rfl))) (gi_sub (fun w h => (List.mem_cons_of_mem _ (List.mem_append_right _ (List.mem_append_right _ (List.mem_append_right _ (List.mem_append_left _ h)))))) zg_k188_X6_hasReading)) rfl rfl rfl (by decide +kernel) ⟨Nat.le_of_ble_eq_true rfl, Nat.le_of_ble_eq_true rfl⟩ 13 rfl rfl rfl rfl (Nat.le_of_ble_eq_true rfl) ⟨Nat.le_of_ble_eq_true rfl, Nat.le_of_ble_eq_true rfl⟩ dX11_mend_40 (fun v ty' w' hp hk' => ?_)
        rcases hp with ⟨hC, rfl, rfl⟩ | ⟨hC, rfl, rfl⟩
        · skip
          replace hF := FE.pos hF hC
          show GW κ 3 0 0 (wX q d I A) 43 [(0, .ref (q 0)), (1, .int z1)] [.int 0]
          refine g_if_eq (tgt := 59) (a := 0) hk dX11_mend_43 (by decide) rfl (fun _ => ?_) (fun z9 => absurd (show (0 : Int) = (0 : Int) from by decide) z9)
          refine g_sipush (v := (-1000)) hk dX11_mend_59 (by decide) ?_
          exact g_iret hk hR rfl ⟨I, A, (show Md [20, 21] I I from Md.rf), (show Md [7, 11, 12, 13] A A from Md.rf), hIv, (-1000), hF, rfl, rfl⟩ dX11_mend_62
        · skip
          replace hF := FE.neg hF (fe_ne hC (by decide))
          show GW κ 3 0 0 (wX q d I A) 43 [(0, .ref (q 0)), (1, .int z1)] [.int 1]
          refine g_if_eq (tgt := 59) (a := 1) hk dX11_mend_43 (by decide) rfl (fun z9 => absurd z9 (show ¬ ((1 : Int) = (0 : Int)) from by decide)) (fun _ => ?_)
          refine g_aload_n hk dX11_mend_46 rfl ?_
          refine gX_r0_2 hk hin11 (List.mem_cons_of_mem _ (List.mem_append_left _ (List.mem_of_getElem? (i := 0) rfl))) dX11_mend_47 ?_
          refine g_iload_n hk dX11_mend_50 rfl ?_
          refine g_iconst (v := 1) hk dX11_mend_51 (by decide) ?_
          refine g_iadd hk dX11_mend_52 ?_
          refine g_topi (fun y2115 ey2115 => ?_)
          replace hF := FE.lt hF ey2115
          have hy2115 : y2115.toInt = z1.toInt + 1 := i32_add ey2115 rfl rfl (by omega) (by omega)
          refine g_callV (n := 1) hk (k188_X6_hasReading l D zt q d I A y2115 hIv) (SP.same _) (fun _ h => h) (gi_V (List.mem_cons_of_mem _ (List.mem_append_left _ (List.mem_of_getElem? (i := 2) rfl))) (List.mem_cons_of_mem _ (List.mem_append_left _ (List.mem_of_getElem? (i := 3) rfl))) (List.mem_cons_of_mem _ (List.mem_append_left _ (List.mem_of_getElem? (i := 4) rfl))) (List.mem_cons_of_mem _ (List.mem_append_left _ (List.mem_of_getElem? (i := 5) rfl))) (gi_sub (fun w h => (List.mem_cons_of_mem _ (List.mem_append_right _ (List.mem_append_right _ (List.mem_append_right _ (List.mem_append_left _ h)))))) zg_k188_X6_hasReading)) rfl rfl rfl (by decide +kernel) ⟨Nat.le_of_ble_eq_true rfl, Nat.le_of_ble_eq_true rfl⟩ 13 rfl rfl rfl rfl (Nat.le_of_ble_eq_true rfl) ⟨Nat.le_of_ble_eq_true rfl, Nat.le_of_ble_eq_true rfl⟩ dX11_mend_53 (fun v ty' w' hp hk' => ?_)
          rcases hp with ⟨hC, rfl, rfl⟩ | ⟨hC, rfl, rfl⟩
          · skip
            replace hF := FE.pos hF hC
            show GW κ 3 0 0 (wX q d I A) 56 [(0, .ref (q 0)), (1, .int z1)] [.int 0]
            refine g_if_ne (tgt := 63) (a := 0) hk dX11_mend_56 (by decide) rfl (fun z9 => absurd z9 (show ¬ ((0 : Int) ≠ (0 : Int)) from by decide)) (fun _ => ?_)
            refine g_sipush (v := (-1000)) hk dX11_mend_59 (by decide) ?_
            exact g_iret hk hR rfl ⟨I, A, (show Md [20, 21] I I from Md.rf), (show Md [7, 11, 12, 13] A A from Md.rf), hIv, (-1000), hF, rfl, rfl⟩ dX11_mend_62
          · skip
            replace hF := FE.neg hF (fe_ne hC (by decide))
            show GW κ 3 0 0 (wX q d I A) 56 [(0, .ref (q 0)), (1, .int z1)] [.int 1]
            refine g_if_ne (tgt := 63) (a := 1) hk dX11_mend_56 (by decide) rfl (fun _ => ?_) (fun z9 => absurd (show (1 : Int) ≠ (0 : Int) from by decide) z9)
            refine g_aload_n hk dX11_mend_63 rfl ?_
            refine gX_r0_2 hk hin11 (List.mem_cons_of_mem _ (List.mem_append_left _ (List.mem_of_getElem? (i := 0) rfl))) dX11_mend_64 ?_
            refine g_iload_n hk dX11_mend_67 rfl ?_
            refine g_iconst (v := 1) hk dX11_mend_68 (by decide) ?_
            refine g_isub hk dX11_mend_69 ?_
            refine g_topi (fun y2118 ey2118 => ?_)
            replace hF := FE.lt hF ey2118
            have hy2118 : y2118.toInt = z1.toInt - 1 := i32_sub ey2118 rfl rfl (by omega) (by omega)
            refine g_callV (n := 1) hk (k179_X6_valueAt l D zt q d I A y2118 hIv) (SP.same _) (fun _ h => h) (gi_V (List.mem_cons_of_mem _ (List.mem_append_left _ (List.mem_of_getElem? (i := 6) rfl))) (List.mem_cons_of_mem _ (List.mem_append_left _ (List.mem_of_getElem? (i := 7) rfl))) (List.mem_cons_of_mem _ (List.mem_append_left _ (List.mem_of_getElem? (i := 8) rfl))) (List.mem_cons_of_mem _ (List.mem_append_left _ (List.mem_of_getElem? (i := 5) rfl))) (gi_sub (fun w h => (List.mem_cons_of_mem _ (List.mem_append_right _ (List.mem_append_right _ (List.mem_append_right _ (List.mem_append_right _ (List.mem_append_left _ h))))))) zg_k179_X6_valueAt)) rfl rfl rfl (by decide +kernel) ⟨Nat.le_of_ble_eq_true rfl, Nat.le_of_ble_eq_true rfl⟩ 13 rfl rfl rfl rfl (Nat.le_of_ble_eq_true rfl) ⟨Nat.le_of_ble_eq_true rfl, Nat.le_of_ble_eq_true rfl⟩ dX11_mend_70 (fun v ty' w' hp hk' => ?_)
            obtain ⟨y2119, hC, rfl, rfl⟩ := hp
            replace hF := FE.lt hF (fe_s hC)
            show GW κ 3 0 0 (wX q d I A) 73 [(0, .ref (q 0)), (1, .int z1)] [.int y2119]
            refine g_aload_n hk dX11_mend_73 rfl ?_
            refine gX_r0_2 hk hin11 (List.mem_cons_of_mem _ (List.mem_append_left _ (List.mem_of_getElem? (i := 0) rfl))) dX11_mend_74 ?_
            refine g_iload_n hk dX11_mend_77 rfl ?_
            refine g_iconst (v := 1) hk dX11_mend_78 (by decide) ?_
            refine g_iadd hk dX11_mend_79 ?_
            refine g_topi (fun y2120 ey2120 => ?_)
            replace hF := FE.lt hF ey2120
            have hy2120 : y2120.toInt = z1.toInt + 1 := i32_add ey2120 rfl rfl (by omega) (by omega)
            refine g_callV (n := 1) hk (k179_X6_valueAt l D zt q d I A y2120 hIv) (SP.same _) (fun _ h => h) (gi_V (List.mem_cons_of_mem _ (List.mem_append_left _ (List.mem_of_getElem? (i := 6) rfl))) (List.mem_cons_of_mem _ (List.mem_append_left _ (List.mem_of_getElem? (i := 7) rfl))) (List.mem_cons_of_mem _ (List.mem_append_left _ (List.mem_of_getElem? (i := 8) rfl))) (List.mem_cons_of_mem _ (List.mem_append_left _ (List.mem_of_getElem? (i := 5) rfl))) (gi_sub (fun w h => (List.mem_cons_of_mem _ (List.mem_append_right _ (List.mem_append_right _ (List.mem_append_right _ (List.mem_append_right _ (List.mem_append_left _ h))))))) zg_k179_X6_valueAt)) rfl rfl rfl (by decide +kernel) ⟨Nat.le_of_ble_eq_true rfl, Nat.le_of_ble_eq_true rfl⟩ 13 rfl rfl rfl rfl (Nat.le_of_ble_eq_true rfl) ⟨Nat.le_of_ble_eq_true rfl, Nat.le_of_ble_eq_true rfl⟩ dX11_mend_80 (fun v ty' w' hp hk' => ?_)
            obtain ⟨y2121, hC, rfl, rfl⟩ := hp
            replace hF := FE.lt hF (fe_s hC)
            show GW κ 3 0 0 (wX q d I A) 83 [(0, .ref (q 0)), (1, .int z1)] [.int y2121, .int y2119]
            have b2122l := Int32.le_toInt y2119
            have b2122h := Int32.toInt_lt y2119
            have b2123l := Int32.le_toInt y2121
            have b2123h := Int32.toInt_lt y2121
            refine g_iadd hk dX11_mend_83 ?_
            refine g_topi (fun y2124 ey2124 => ?_)
            replace hF := FE.lt hF ey2124
            refine g_iconst (v := 2) hk dX11_mend_84 (by decide) ?_
            have k2138 : (2 : Int32).toInt = 2 := rfl
            refine g_callS (n := 2) hk (k189_J9_floorDiv_7cf53 l D zt q d I A y2124 2 hIv (by decide)) (SP.same _) (fun _ h => h) (gi_S (List.mem_cons_of_mem _ (List.mem_append_left _ (List.mem_of_getElem? (i := 9) rfl))) (List.mem_cons_of_mem _ (List.mem_append_left _ (List.mem_of_getElem? (i := 10) rfl))) (List.mem_cons_of_mem _ (List.mem_append_left _ (List.mem_of_getElem? (i := 11) rfl))) (gi_sub (fun w h => (List.mem_cons_of_mem _ (List.mem_append_right _ (List.mem_append_right _ (List.mem_append_right _ (List.mem_append_right _ (List.mem_append_right _ (List.mem_append_left _ h)))))))) zg_k189_J9_floorDiv_7cf53)) rfl rfl rfl (by decide +kernel) ⟨Nat.le_of_ble_eq_true rfl, Nat.le_of_ble_eq_true rfl⟩ rfl rfl (Nat.le_of_ble_eq_true rfl) ⟨Nat.le_of_ble_eq_true rfl, Nat.le_of_ble_eq_true rfl⟩ dX11_mend_85 (fun v ty' w' hp hk' => ?_)
            obtain ⟨y2139, hC, rfl, rfl⟩ := hp
            replace hF := FE.lt hF (fe_s hC)
            show GW κ 3 0 0 (wX q d I A) 88 [(0, .ref (q 0)), (1, .int z1)] [.int y2139]
            refine g_istore_n (lv' := [(2, .int y2139), (0, .ref (q 0)), (1, .int z1)]) hk dX11_mend_88 (by decide) rfl ?_
            refine g_aload_n hk dX11_mend_89 rfl ?_
            refine gX_r0_2 hk hin11 (List.mem_cons_of_mem _ (List.mem_append_left _ (List.mem_of_getElem? (i := 0) rfl))) dX11_mend_90 ?_
            refine g_iload_n hk dX11_mend_93 rfl ?_
            refine g_iload_n hk dX11_mend_94 rfl ?_
            refine g_callV (n := 2) hk (k190_X6_putAt l D zt q d I A z1 y2139 hIv) (SP.same _) (fun _ h => h) (gi_V (List.mem_cons_of_mem _ (List.mem_append_left _ (List.mem_of_getElem? (i := 12) rfl))) (List.mem_cons_of_mem _ (List.mem_append_left _ (List.mem_of_getElem? (i := 13) rfl))) (List.mem_cons_of_mem _ (List.mem_append_left _ (List.mem_of_getElem? (i := 14) rfl))) (List.mem_cons_of_mem _ (List.mem_append_left _ (List.mem_of_getElem? (i := 5) rfl))) (gi_sub (fun w h => (List.mem_cons_of_mem _ (List.mem_append_right _ (List.mem_append_right _ (List.mem_append_right _ (List.mem_append_right _ (List.mem_append_right _ (List.mem_append_right _ (List.mem_append_left _ h))))))))) zg_k190_X6_putAt)) rfl rfl rfl (by decide +kernel) ⟨Nat.le_of_ble_eq_true rfl, Nat.le_of_ble_eq_true rfl⟩ 13 rfl rfl rfl rfl (Nat.le_of_ble_eq_true rfl) ⟨Nat.le_of_ble_eq_true rfl, Nat.le_of_ble_eq_true rfl⟩ dX11_mend_95 (fun v ty' w' hp hk' => ?_)
            obtain ⟨I2149, A2149, hI2149, hA2149, hV2149, hC, rfl, rfl⟩ := hp
            replace hF := FE.bdX hF hC
            show GW κ 3 0 0 (wX q d I2149 A2149) 98 [(2, .int y2139), (0, .ref (q 0)), (1, .int z1)] []
            refine g_aload_n hk dX11_mend_98 rfl ?_
            refine gX_r0_5 hk hin11 (List.mem_cons_of_mem _ (List.mem_append_left _ (List.mem_of_getElem? (i := 15) rfl))) dX11_mend_99 ?_
            refine g_iconst (v := 1) hk dX11_mend_102 (by decide) ?_
            refine g_iload_n hk dX11_mend_103 rfl ?_
            refine g_iconst (v := 0) hk dX11_mend_104 (by decide) ?_
            have k2150 : (1 : Int32).toInt = 1 := rfl
            have k2151 : (0 : Int32).toInt = 0 := rfl
            refine g_callV (n := 3) hk (k185_X3_note l D zt q d I2149 A2149 1 z1 0 hV2149) (SP.same _) (fun _ h => h) (gi_V (List.mem_cons_of_mem _ (List.mem_append_left _ (List.mem_of_getElem? (i := 16) rfl))) (List.mem_cons_of_mem _ (List.mem_append_left _ (List.mem_of_getElem? (i := 17) rfl))) (List.mem_cons_of_mem _ (List.mem_append_left _ (List.mem_of_getElem? (i := 18) rfl))) (List.mem_cons_of_mem _ (List.mem_append_left _ (List.mem_of_getElem? (i := 19) rfl))) (gi_sub (fun w h => (List.mem_cons_of_mem _ (List.mem_append_right _ (List.mem_append_right _ (List.mem_append_right _ (List.mem_append_right _ (List.mem_append_right _ (List.mem_append_right _ (List.mem_append_right _ (List.mem_append_left _ h)))))))))) zg_k185_X3_note)) rfl rfl rfl (by decide +kernel) ⟨Nat.le_of_ble_eq_true rfl, Nat.le_of_ble_eq_true rfl⟩ 20 rfl rfl rfl rfl (Nat.le_of_ble_eq_true rfl) ⟨Nat.le_of_ble_eq_true rfl, Nat.le_of_ble_eq_true rfl⟩ dX11_mend_105 (fun v ty' w' hp hk' => ?_)
            obtain ⟨I2153, A2153, hI2153, hA2153, hV2153, hC, rfl, rfl⟩ := hp
            replace hF := FE.bdX hF hC
            show GW κ 3 0 0 (wX q d I2153 A2153) 108 [(2, .int y2139), (0, .ref (q 0)), (1, .int z1)] []
            refine g_iload_n hk dX11_mend_108 rfl ?_
            have b2154l := Int32.le_toInt y2139
            have b2154h := Int32.toInt_lt y2139
            exact g_iret hk hR rfl ⟨I2153, A2153, (show Md [20, 21] I I2153 from (Md.tr (Md.tr Md.rf hI2149 rfl) hI2153 rfl)), (show Md [7, 11, 12, 13] A A2153 from (Md.tr (Md.tr Md.rf hA2149 rfl) hA2153 rfl)), hV2153, y2139, hF, rfl, rfl⟩ dX11_mend_109
      · skip
        replace hF := FE.neg hF (fe_ne hC (by decide))
        show GW κ 3 0 0 (wX q d I A) 26 [(0, .ref (q 0)), (1, .int z1)] [.int 1]
        refine g_if_eq (tgt := 33) (a := 1) hk dX11_mend_26 (by decide) rfl (fun z9 => absurd z9 (show ¬ ((1 : Int) = (0 : Int)) from by decide)) (fun _ => ?_)
        refine g_sipush (v := (-1000)) hk dX11_mend_29 (by decide) ?_
        exact g_iret hk hR rfl ⟨I, A, (show Md [20, 21] I I from Md.rf), (show Md [7, 11, 12, 13] A A from Md.rf), hIv, (-1000), hF, rfl, rfl⟩ dX11_mend_32
noncomputable def fX6_cutFirst (I : Nat → Int32) (A : Nat → Nat → Int32) (z1 : Int32) : Int32 × (Nat → Int32) × (Nat → Nat → Int32) := if z1.toInt < 1 then (0, I, A) else if z1.toInt ≤ (I 18).toInt then f_lt ((I 17) + z1) fun y2160 => f_lt (y2160 &&& (255 : Int32)) fun y2162 => f_lt ((I 18) - z1) fun y2163 => (1, (upd (upd I 17 y2162) 18 y2163), A) else (0, I, A)
def wo_k192_X6_cutFirst : List Cond := [Cond.fieldLink RX6 19 "WarpDesk$Series" "size" "I", Cond.fieldLink RX6 15 "WarpDesk$Series" "first" "I"]
def wz_k192_X6_cutFirst : List Cond := .code yX6_cutFirst cX6_cutFirst 2 (some .boolean) :: (wo_k192_X6_cutFirst ++ (wsX60 ++ ([] : List Cond)))
theorem zg_k192_X6_cutFirst : ∀ w ∈ wz_k192_X6_cutFirst, goodWord w = true := zg_cons rfl (zg_app (by decide +kernel) (zg_app zgU_wsX60 zg_nil))
theorem zi_k192_X6_cutFirst : ∀ w ∈ wz_k192_X6_cutFirst, w ∈ lw_tbl := zi_cons zw_858 (zi_app (zi_cons zw_282 (zi_cons zw_281 zi_nil)) (zi_app inX6 zi_nil))
set_option maxHeartbeats 4000000 in
set_option maxRecDepth 100000 in
theorem k192_X6_cutFirst (l : Launch) (D : va_G) (zt : Nat × Nat × Nat × (Nat → Nat) × (Nat → Nat)) (q : Nat → Nat) (d : Nat → ClassId) (I : Nat → Int32) (A : Nat → Nat → Int32) (z1 : Int32) (hIv : IvX I A) : GM l D zt (tyX d) yX6_cutFirst wz_k192_X6_cutFirst ({ frames := 0, cells := 0, slots := 0, locals := 0 } : Room) [.ref (q 13), .int z1] (wX q d I A) (fun v _ w' => ∃ (I' : Nat → Int32) (A' : Nat → Nat → Int32), Md [17, 18] I I' ∧ Md [] A A' ∧ IvX I' A' ∧ ∃ y0 : Int32, (0 ≤ y0.toInt) ∧ (y0.toInt ≤ 1) ∧ FE (fX6_cutFirst I A z1) (y0, I', A') ∧ v = some (.int y0) ∧ w' = wX q d I' A') 0 0 := by
  refine GM.of (cc := cX6_cutFirst) (maxL := 2) (ret := (some .boolean)) (own := RX6) (lv := [(0, .ref (q 13)), (1, .int z1)]) (by decide) rfl rfl (Nat.le_of_ble_eq_true rfl) rfl (fun κ sz hk hR hN => ?_)
  have hin6 : ∀ w ∈ u_ws RX6 TX6 3, w ∈ wz_k192_X6_cutFirst := fun w h => (List.mem_cons_of_mem _ (List.mem_append_right _ (List.mem_append_left _ h)))
  have hF : FE (fX6_cutFirst I A z1) (fX6_cutFirst I A z1) := FE.rf
  refine g_iload_n hk dX6_cutFirst_0 rfl ?_
  refine g_iconst (v := 1) hk dX6_cutFirst_1 (by decide) ?_
  have b2155l := Int32.le_toInt z1
  have b2155h := Int32.toInt_lt z1
  refine g_icmp_lt (tgt := 13) (a := z1.toInt) (b := 1) hk dX6_cutFirst_2 (by decide) rfl rfl (fun c2156 => ?_) (fun c2156 => ?_)
  · skip
    replace hF := FE.pos hF c2156
    refine g_iconst (v := 0) hk dX6_cutFirst_13 (by decide) ?_
    exact g_iret hk hR rfl ⟨I, A, (show Md [17, 18] I I from Md.rf), (show Md [] A A from Md.rf), hIv, 0, (by decide), (by decide), hF, rfl, rfl⟩ dX6_cutFirst_14
  · skip
    replace hF := FE.neg hF c2156
    refine g_iload_n hk dX6_cutFirst_5 rfl ?_
    refine g_aload_n hk dX6_cutFirst_6 rfl ?_
    refine gX_i18 (v := (I 18)) hk hin6 (List.mem_cons_of_mem _ (List.mem_append_left _ (List.mem_of_getElem? (i := 0) rfl))) dX6_cutFirst_7 rfl ?_
    have f2157 := IvX_f18 hIv
    refine g_icmp_le (tgt := 15) (a := z1.toInt) (b := (I 18).toInt) hk dX6_cutFirst_10 (by decide) rfl rfl (fun c2158 => ?_) (fun c2158 => ?_)
    · skip
      replace hF := FE.pos hF c2158
      refine g_aload_n hk dX6_cutFirst_15 rfl ?_
      refine g_aload_n hk dX6_cutFirst_16 rfl ?_
      refine gX_i17 (v := (I 17)) hk hin6 (List.mem_cons_of_mem _ (List.mem_append_left _ (List.mem_of_getElem? (i := 1) rfl))) dX6_cutFirst_17 rfl ?_
      refine g_iload_n hk dX6_cutFirst_20 rfl ?_
      have b2159l := Int32.le_toInt (I 17)
      have b2159h := Int32.toInt_lt (I 17)
      refine g_iadd hk dX6_cutFirst_21 ?_
      refine g_topi (fun y2160 ey2160 => ?_)
      replace hF := FE.lt hF ey2160
      refine g_sipush (v := 255) hk dX6_cutFirst_22 (by decide) ?_
      have b2161l := Int32.le_toInt y2160
      have b2161h := Int32.toInt_lt y2160
      refine g_iand hk dX6_cutFirst_25 ?_
      refine g_topi (fun y2162 ey2162 => ?_)
      replace hF := FE.lt hF ey2162
      have hy2162 : 0 ≤ y2162.toInt ∧ y2162.toInt ≤ 255 := i32_mask 8 ey2162 (by decide) (by decide)
      refine pX_i17 hk hin6 (List.mem_cons_of_mem _ (List.mem_append_left _ (List.mem_of_getElem? (i := 1) rfl))) dX6_cutFirst_26 ?_
      refine g_aload_n hk dX6_cutFirst_29 rfl ?_
      refine g_dup hk dX6_cutFirst_30 rfl ?_
      refine gX_i18 (v := (I 18)) hk hin6 (List.mem_cons_of_mem _ (List.mem_append_left _ (List.mem_of_getElem? (i := 0) rfl))) dX6_cutFirst_31 rfl ?_
      refine g_iload_n hk dX6_cutFirst_34 rfl ?_
      refine g_isub hk dX6_cutFirst_35 ?_
      refine g_topi (fun y2163 ey2163 => ?_)
      replace hF := FE.lt hF ey2163
      have hy2163 : y2163.toInt = (I 18).toInt - z1.toInt := i32_sub ey2163 rfl rfl (by omega) (by omega)
      refine pX_i18 hk hin6 (List.mem_cons_of_mem _ (List.mem_append_left _ (List.mem_of_getElem? (i := 0) rfl))) dX6_cutFirst_36 ?_
      refine g_iconst (v := 1) hk dX6_cutFirst_39 (by decide) ?_
      exact g_iret hk hR rfl ⟨(upd (upd I 17 y2162) 18 y2163), A, (show Md [17, 18] I (upd (upd I 17 y2162) 18 y2163) from (Md.up (Md.up Md.rf rfl) rfl)), (show Md [] A A from Md.rf), ⟨(IvX_f0 (I := I) (A := A) hIv), (show 0 ≤ y2163.toInt ∧ y2163.toInt ≤ 160 from ⟨by omega, by omega⟩), (IvX_f30 (I := I) (A := A) hIv), (IvX_f31 (I := I) (A := A) hIv), (IvX_a4 (I := I) (A := A) hIv), (IvX_a9 (I := I) (A := A) hIv), trivial⟩, 1, (by decide), (by decide), hF, rfl, rfl⟩ dX6_cutFirst_40
    · skip
      replace hF := FE.neg hF c2158
      refine g_iconst (v := 0) hk dX6_cutFirst_13 (by decide) ?_
      exact g_iret hk hR rfl ⟨I, A, (show Md [17, 18] I I from Md.rf), (show Md [] A A from Md.rf), hIv, 0, (by decide), (by decide), hF, rfl, rfl⟩ dX6_cutFirst_14
noncomputable def fX11_drop (I : Nat → Int32) (A : Nat → Nat → Int32) (z1 : Int32) : Int32 × (Nat → Int32) × (Nat → Nat → Int32) := f_bdX (fX6_cutFirst I A z1) fun y2164 I2167 A2167 => if y2164.toInt ≠ 0 then f_bdX (fX3_note I2167 A2167 2 z1 0) fun _ I2172 A2172 => (1, I2172, A2172) else (0, I2167, A2167)
def wo_k191_X11_drop : List Cond := [Cond.fieldLink RX11 28 "WarpDesk" "series" "LWarpDesk$Series;", Cond.methodLink RX11 151 yX6_cutFirst, Cond.instanceMethod yX6_cutFirst, Cond.selects RX6 yX6_cutFirst yX6_cutFirst, Cond.initialized RX6, Cond.fieldLink RX11 49 "WarpDesk" "past" "LWarpDesk$Past;", Cond.methodLink RX11 134 yX3_note, Cond.instanceMethod yX3_note, Cond.selects RX3 yX3_note yX3_note, Cond.initialized RX3]
def wz_k191_X11_drop : List Cond := .code yX11_drop cX11_drop 2 (some .boolean) :: (wo_k191_X11_drop ++ (wsX110 ++ (wz_k192_X6_cutFirst ++ (wz_k185_X3_note ++ ([] : List Cond)))))
theorem zg_k191_X11_drop : ∀ w ∈ wz_k191_X11_drop, goodWord w = true := zg_cons rfl (zg_app (by decide +kernel) (zg_app zgU_wsX110 (zg_app zg_k192_X6_cutFirst (zg_app zg_k185_X3_note zg_nil))))
theorem zi_k191_X11_drop : ∀ w ∈ wz_k191_X11_drop, w ∈ lw_tbl := zi_cons zw_854 (zi_app (zi_cons zw_489 (zi_cons zw_855 (zi_cons zw_856 (zi_cons zw_857 (zi_cons zw_109 (zi_cons zw_492 (zi_cons zw_824 (zi_cons zw_825 (zi_cons zw_826 (zi_cons zw_110 zi_nil)))))))))) (zi_app inX11 (zi_app zi_k192_X6_cutFirst (zi_app zi_k185_X3_note zi_nil))))
set_option maxHeartbeats 4000000 in
set_option maxRecDepth 100000 in
theorem k191_X11_drop (l : Launch) (D : va_G) (zt : Nat × Nat × Nat × (Nat → Nat) × (Nat → Nat)) (q : Nat → Nat) (d : Nat → ClassId) (I : Nat → Int32) (A : Nat → Nat → Int32) (z1 : Int32) (hIv : IvX I A) : GM l D zt (tyX d) yX11_drop wz_k191_X11_drop ({ frames := 2, cells := 0, slots := 0, locals := 37 } : Room) [.ref (q 0), .int z1] (wX q d I A) (fun v _ w' => ∃ (I' : Nat → Int32) (A' : Nat → Nat → Int32), Md [17, 18, 20, 21] I I' ∧ Md [11, 12, 13] A A' ∧ IvX I' A' ∧ ∃ y0 : Int32, (0 ≤ y0.toInt) ∧ (y0.toInt ≤ 1) ∧ FE (fX11_drop I A z1) (y0, I', A') ∧ v = some (.int y0) ∧ w' = wX q d I' A') 0 0 := by
  refine GM.of (cc := cX11_drop) (maxL := 2) (ret := (some .boolean)) (own := RX11) (lv := [(0, .ref (q 0)), (1, .int z1)]) (by decide) rfl rfl (Nat.le_of_ble_eq_true rfl) rfl (fun κ sz hk hR hN => ?_)
  have hin11 : ∀ w ∈ u_ws RX11 TX11 10, w ∈ wz_k191_X11_drop := fun w h => (List.mem_cons_of_mem _ (List.mem_append_right _ (List.mem_append_left _ h)))
  have hF : FE (fX11_drop I A z1) (fX11_drop I A z1) := FE.rf
  refine g_aload_n hk dX11_drop_0 rfl ?_
  refine gX_r0_2 hk hin11 (List.mem_cons_of_mem _ (List.mem_append_left _ (List.mem_of_getElem? (i := 0) rfl))) dX11_drop_1 ?_
  refine g_iload_n hk dX11_drop_4 rfl ?_
  refine g_callV (n := 1) hk (k192_X6_cutFirst l D zt q d I A z1 hIv) (SP.same _) (fun _ h => h) (gi_V (List.mem_cons_of_mem _ (List.mem_append_left _ (List.mem_of_getElem? (i := 1) rfl))) (List.mem_cons_of_mem _ (List.mem_append_left _ (List.mem_of_getElem? (i := 2) rfl))) (List.mem_cons_of_mem _ (List.mem_append_left _ (List.mem_of_getElem? (i := 3) rfl))) (List.mem_cons_of_mem _ (List.mem_append_left _ (List.mem_of_getElem? (i := 4) rfl))) (gi_sub (fun w h => (List.mem_cons_of_mem _ (List.mem_append_right _ (List.mem_append_right _ (List.mem_append_left _ h))))) zg_k192_X6_cutFirst)) rfl rfl rfl (by decide +kernel) ⟨Nat.le_of_ble_eq_true rfl, Nat.le_of_ble_eq_true rfl⟩ 13 rfl rfl rfl rfl (Nat.le_of_ble_eq_true rfl) ⟨Nat.le_of_ble_eq_true rfl, Nat.le_of_ble_eq_true rfl⟩ dX11_drop_5 (fun v ty' w' hp hk' => ?_)
  obtain ⟨I2167, A2167, hI2167, hA2167, hV2167, y2164, c2165, c2166, hC, rfl, rfl⟩ := hp
  replace hF := FE.bdX hF hC
  show GW κ 2 0 0 (wX q d I2167 A2167) 8 [(0, .ref (q 0)), (1, .int z1)] [.int y2164]
  refine g_if_ne (tgt := 13) (a := y2164.toInt) hk dX11_drop_8 (by decide) rfl (fun c2168 => ?_) (fun c2168 => ?_)
  · skip
    replace hF := FE.pos hF c2168
    refine g_aload_n hk dX11_drop_13 rfl ?_
    refine gX_r0_5 hk hin11 (List.mem_cons_of_mem _ (List.mem_append_left _ (List.mem_of_getElem? (i := 5) rfl))) dX11_drop_14 ?_
    refine g_iconst (v := 2) hk dX11_drop_17 (by decide) ?_
    refine g_iload_n hk dX11_drop_18 rfl ?_
    refine g_iconst (v := 0) hk dX11_drop_19 (by decide) ?_
    have k2169 : (2 : Int32).toInt = 2 := rfl
    have k2170 : (0 : Int32).toInt = 0 := rfl
    refine g_callV (n := 3) hk (k185_X3_note l D zt q d I2167 A2167 2 z1 0 hV2167) (SP.same _) (fun _ h => h) (gi_V (List.mem_cons_of_mem _ (List.mem_append_left _ (List.mem_of_getElem? (i := 6) rfl))) (List.mem_cons_of_mem _ (List.mem_append_left _ (List.mem_of_getElem? (i := 7) rfl))) (List.mem_cons_of_mem _ (List.mem_append_left _ (List.mem_of_getElem? (i := 8) rfl))) (List.mem_cons_of_mem _ (List.mem_append_left _ (List.mem_of_getElem? (i := 9) rfl))) (gi_sub (fun w h => (List.mem_cons_of_mem _ (List.mem_append_right _ (List.mem_append_right _ (List.mem_append_right _ (List.mem_append_left _ h)))))) zg_k185_X3_note)) rfl rfl rfl (by decide +kernel) ⟨Nat.le_of_ble_eq_true rfl, Nat.le_of_ble_eq_true rfl⟩ 20 rfl rfl rfl rfl (Nat.le_of_ble_eq_true rfl) ⟨Nat.le_of_ble_eq_true rfl, Nat.le_of_ble_eq_true rfl⟩ dX11_drop_20 (fun v ty' w' hp hk' => ?_)
    obtain ⟨I2172, A2172, hI2172, hA2172, hV2172, hC, rfl, rfl⟩ := hp
    replace hF := FE.bdX hF hC
    show GW κ 2 0 0 (wX q d I2172 A2172) 23 [(0, .ref (q 0)), (1, .int z1)] []
    refine g_iconst (v := 1) hk dX11_drop_23 (by decide) ?_
    exact g_iret hk hR rfl ⟨I2172, A2172, (show Md [17, 18, 20, 21] I I2172 from (Md.tr (Md.tr Md.rf hI2167 rfl) hI2172 rfl)), (show Md [11, 12, 13] A A2172 from (Md.tr (Md.tr Md.rf hA2167 rfl) hA2172 rfl)), hV2172, 1, (by decide), (by decide), hF, rfl, rfl⟩ dX11_drop_24
  · skip
    replace hF := FE.neg hF c2168
    refine g_iconst (v := 0) hk dX11_drop_11 (by decide) ?_
    exact g_iret hk hR rfl ⟨I2167, A2167, (show Md [17, 18, 20, 21] I I2167 from (Md.tr Md.rf hI2167 rfl)), (show Md [11, 12, 13] A A2167 from (Md.tr Md.rf hA2167 rfl)), hV2167, 0, (by decide), (by decide), hF, rfl, rfl⟩ dX11_drop_12
noncomputable def fX7_valueOf_2 (I : Nat → Int32) (A : Nat → Nat → Int32) (z1 : Int32) : Int32 := if z1.toInt < 0 then (-1) else if 4 ≤ z1.toInt then (-1) else (A 10 z1.toNatClampNeg)
set_option maxHeartbeats 4000000 in
set_option maxRecDepth 100000 in
theorem k194_X7_valueOf (l : Launch) (D : va_G) (zt : Nat × Nat × Nat × (Nat → Nat) × (Nat → Nat)) (q : Nat → Nat) (d : Nat → ClassId) (I : Nat → Int32) (A : Nat → Nat → Int32) (z1 : Int32) (hIv : IvX I A) : GM l D zt (tyX d) yX7_valueOf wz_k174_X7_valueOf ({ frames := 0, cells := 0, slots := 0, locals := 0 } : Room) [.ref (q 18), .int z1] (wX q d I A) (fun v _ w' => ∃ y0 : Int32, FE (fX7_valueOf_2 I A z1) y0 ∧ v = some (.int y0) ∧ w' = wX q d I A) 0 0 := by
  refine GM.of (cc := cX7_valueOf) (maxL := 2) (ret := (some .int)) (own := RX7) (lv := [(0, .ref (q 18)), (1, .int z1)]) (by decide) rfl rfl (Nat.le_of_ble_eq_true rfl) rfl (fun κ sz hk hR hN => ?_)
  have hin7 : ∀ w ∈ u_ws RX7 TX7 1, w ∈ wz_k174_X7_valueOf := fun w h => (List.mem_cons_of_mem _ (List.mem_append_right _ (List.mem_append_left _ h)))
  have hF : FE (fX7_valueOf_2 I A z1) (fX7_valueOf_2 I A z1) := FE.rf
  refine g_iload_n hk dX7_valueOf_0 rfl ?_
  have b2173l := Int32.le_toInt z1
  have b2173h := Int32.toInt_lt z1
  refine g_if_lt (tgt := 22) (a := z1.toInt) hk dX7_valueOf_1 (by decide) rfl (fun c2174 => ?_) (fun c2174 => ?_)
  · skip
    replace hF := FE.pos hF c2174
    refine g_iconst (v := (-1)) hk dX7_valueOf_22 (by decide) ?_
    exact g_iret hk hR rfl ⟨(-1), hF, rfl, rfl⟩ dX7_valueOf_23
  · skip
    replace hF := FE.neg hF c2174
    refine g_iload_n hk dX7_valueOf_4 rfl ?_
    refine g_aload_n hk dX7_valueOf_5 rfl ?_
    refine gX_r18_0 hk hin7 (List.mem_cons_of_mem _ (List.mem_append_left _ (List.mem_of_getElem? (i := 0) rfl))) dX7_valueOf_6 ?_
    refine nX_10 hk dX7_valueOf_9 ?_
    refine g_icmp_ge (tgt := 22) (a := z1.toInt) (b := 4) hk dX7_valueOf_10 (by decide) rfl rfl (fun c2175 => ?_) (fun c2175 => ?_)
    · skip
      replace hF := FE.pos hF c2175
      refine g_iconst (v := (-1)) hk dX7_valueOf_22 (by decide) ?_
      exact g_iret hk hR rfl ⟨(-1), hF, rfl, rfl⟩ dX7_valueOf_23
    · skip
      replace hF := FE.neg hF c2175
      refine g_aload_n hk dX7_valueOf_13 rfl ?_
      refine gX_r18_0 hk hin7 (List.mem_cons_of_mem _ (List.mem_append_left _ (List.mem_of_getElem? (i := 0) rfl))) dX7_valueOf_14 ?_
      refine g_iload_n hk dX7_valueOf_17 rfl ?_
      refine lX_10 (v := (A 10 z1.toNatClampNeg)) hk (vp_in_iff.mpr ⟨by omega, by omega⟩) rfl dX7_valueOf_18 ?_
      refine g_goto (tgt := 23) hk dX7_valueOf_19 (by decide) ?_
      have b2176l := Int32.le_toInt (A 10 z1.toNatClampNeg)
      have b2176h := Int32.toInt_lt (A 10 z1.toNatClampNeg)
      exact g_iret hk hR rfl ⟨(A 10 z1.toNatClampNeg), hF, rfl, rfl⟩ dX7_valueOf_23
noncomputable def fX7_put_2 (I : Nat → Int32) (A : Nat → Nat → Int32) (z1 : Int32) (z2 : Int32) : Int32 × (Nat → Int32) × (Nat → Nat → Int32) := if z1.toInt < 0 then (0, I, A) else if 4 ≤ z1.toInt then (0, I, A) else (0, I, (up3 A 10 (z1.toNatClampNeg) z2))
set_option maxHeartbeats 4000000 in
set_option maxRecDepth 100000 in
theorem k195_X7_put (l : Launch) (D : va_G) (zt : Nat × Nat × Nat × (Nat → Nat) × (Nat → Nat)) (q : Nat → Nat) (d : Nat → ClassId) (I : Nat → Int32) (A : Nat → Nat → Int32) (z1 : Int32) (z2 : Int32) (hIv : IvX I A) : GM l D zt (tyX d) yX7_put wz_k121_X7_put ({ frames := 0, cells := 0, slots := 0, locals := 0 } : Room) [.ref (q 18), .int z1, .int z2] (wX q d I A) (fun v _ w' => ∃ (I' : Nat → Int32) (A' : Nat → Nat → Int32), Md [] I I' ∧ Md [10] A A' ∧ IvX I' A' ∧ FE (fX7_put_2 I A z1 z2) (0, I', A') ∧ v = none ∧ w' = wX q d I' A') 0 0 := by
  refine GM.of (cc := cX7_put) (maxL := 3) (ret := none) (own := RX7) (lv := [(0, .ref (q 18)), (1, .int z1), (2, .int z2)]) (by decide) rfl rfl (Nat.le_of_ble_eq_true rfl) rfl (fun κ sz hk hR hN => ?_)
  have hin7 : ∀ w ∈ u_ws RX7 TX7 1, w ∈ wz_k121_X7_put := fun w h => (List.mem_cons_of_mem _ (List.mem_append_right _ (List.mem_append_left _ h)))
  have hF : FE (fX7_put_2 I A z1 z2) (fX7_put_2 I A z1 z2) := FE.rf
  refine g_iload_n hk dX7_put_0 rfl ?_
  have b2188l := Int32.le_toInt z1
  have b2188h := Int32.toInt_lt z1
  refine g_if_lt (tgt := 20) (a := z1.toInt) hk dX7_put_1 (by decide) rfl (fun c2189 => ?_) (fun c2189 => ?_)
  · skip
    replace hF := FE.pos hF c2189
    exact g_vret hk hR ⟨I, A, (show Md [] I I from Md.rf), (show Md [10] A A from Md.rf), hIv, hF, rfl, rfl⟩ dX7_put_20
  · skip
    replace hF := FE.neg hF c2189
    refine g_iload_n hk dX7_put_4 rfl ?_
    refine g_aload_n hk dX7_put_5 rfl ?_
    refine gX_r18_0 hk hin7 (List.mem_cons_of_mem _ (List.mem_append_left _ (List.mem_of_getElem? (i := 0) rfl))) dX7_put_6 ?_
    refine nX_10 hk dX7_put_9 ?_
    refine g_icmp_ge (tgt := 20) (a := z1.toInt) (b := 4) hk dX7_put_10 (by decide) rfl rfl (fun c2190 => ?_) (fun c2190 => ?_)
    · skip
      replace hF := FE.pos hF c2190
      exact g_vret hk hR ⟨I, A, (show Md [] I I from Md.rf), (show Md [10] A A from Md.rf), hIv, hF, rfl, rfl⟩ dX7_put_20
    · skip
      replace hF := FE.neg hF c2190
      refine g_aload_n hk dX7_put_13 rfl ?_
      refine gX_r18_0 hk hin7 (List.mem_cons_of_mem _ (List.mem_append_left _ (List.mem_of_getElem? (i := 0) rfl))) dX7_put_14 ?_
      refine g_iload_n hk dX7_put_17 rfl ?_
      refine g_iload_n hk dX7_put_18 rfl ?_
      refine sX_10 (j := z1.toNatClampNeg) hk (vp_in_iff.mpr ⟨by omega, by omega⟩) rfl dX7_put_19 ?_
      exact g_vret hk hR ⟨I, (up3 A 10 (z1.toNatClampNeg) z2), (show Md [] I I from Md.rf), (show Md [10] A (up3 A 10 (z1.toNatClampNeg) z2) from (Md.up3 Md.rf rfl)), ⟨(IvX_f0 (I := I) (A := A) hIv), (IvX_f18 (I := I) (A := A) hIv), (IvX_f30 (I := I) (A := A) hIv), (IvX_f31 (I := I) (A := A) hIv), (IvX_a4 (I := I) (A := A) hIv), (IvX_a9 (I := I) (A := A) hIv), trivial⟩, hF, rfl, rfl⟩ dX7_put_20
noncomputable def fX11_set (I : Nat → Int32) (A : Nat → Nat → Int32) (z1 : Int32) (z2 : Int32) : Int32 × (Nat → Int32) × (Nat → Nat → Int32) := f_lt (fX7_valueOf_2 I A z1) fun y2177 => if fX7_allows I A z1 z2 = 0 then (0, I, A) else if y2177.toInt ≠ z2.toInt then f_bdX (fX7_put_2 I A z1 z2) fun _ I2192 A2192 => f_bdX (fX3_note I2192 A2192 3 z1 y2177) fun _ I2195 A2195 => (1, I2195, A2195) else (0, I, A)
def wo_k193_X11_set : List Cond := [Cond.fieldLink RX11 42 "WarpDesk" "settings" "LWarpDesk$Settings;", Cond.methodLink RX11 154 yX7_valueOf, Cond.instanceMethod yX7_valueOf, Cond.selects RX7 yX7_valueOf yX7_valueOf, Cond.initialized RX7, Cond.methodLink RX11 157 yX7_allows, Cond.static yX7_allows, Cond.methodLink RX11 161 yX7_put, Cond.instanceMethod yX7_put, Cond.selects RX7 yX7_put yX7_put, Cond.fieldLink RX11 49 "WarpDesk" "past" "LWarpDesk$Past;", Cond.methodLink RX11 134 yX3_note, Cond.instanceMethod yX3_note, Cond.selects RX3 yX3_note yX3_note, Cond.initialized RX3]
def wz_k193_X11_set : List Cond := .code yX11_set cX11_set 4 (some .boolean) :: (wo_k193_X11_set ++ (wsX110 ++ (wz_k174_X7_valueOf ++ (wz_k162_X7_allows ++ (wz_k121_X7_put ++ (wz_k185_X3_note ++ ([] : List Cond)))))))
theorem zg_k193_X11_set : ∀ w ∈ wz_k193_X11_set, goodWord w = true := zg_cons rfl (zg_app (by decide +kernel) (zg_app zgU_wsX110 (zg_app zg_k174_X7_valueOf (zg_app zg_k162_X7_allows (zg_app zg_k121_X7_put (zg_app zg_k185_X3_note zg_nil))))))
theorem zi_k193_X11_set : ∀ w ∈ wz_k193_X11_set, w ∈ lw_tbl := zi_cons zw_862 (zi_app (zi_cons zw_491 (zi_cons zw_863 (zi_cons zw_786 (zi_cons zw_787 (zi_cons zw_107 (zi_cons zw_864 (zi_cons zw_723 (zi_cons zw_865 (zi_cons zw_551 (zi_cons zw_552 (zi_cons zw_492 (zi_cons zw_824 (zi_cons zw_825 (zi_cons zw_826 (zi_cons zw_110 zi_nil))))))))))))))) (zi_app inX11 (zi_app zi_k174_X7_valueOf (zi_app zi_k162_X7_allows (zi_app zi_k121_X7_put (zi_app zi_k185_X3_note zi_nil))))))
set_option maxHeartbeats 4000000 in
set_option maxRecDepth 100000 in
theorem k193_X11_set (l : Launch) (D : va_G) (zt : Nat × Nat × Nat × (Nat → Nat) × (Nat → Nat)) (q : Nat → Nat) (d : Nat → ClassId) (I : Nat → Int32) (A : Nat → Nat → Int32) (z1 : Int32) (z2 : Int32) (hIv : IvX I A) : GM l D zt (tyX d) yX11_set wz_k193_X11_set ({ frames := 2, cells := 0, slots := 0, locals := 37 } : Room) [.ref (q 0), .int z1, .int z2] (wX q d I A) (fun v _ w' => ∃ (I' : Nat → Int32) (A' : Nat → Nat → Int32), Md [20, 21] I I' ∧ Md [10, 11, 12, 13] A A' ∧ IvX I' A' ∧ ∃ y0 : Int32, (0 ≤ y0.toInt) ∧ (y0.toInt ≤ 1) ∧ FE (fX11_set I A z1 z2) (y0, I', A') ∧ v = some (.int y0) ∧ w' = wX q d I' A') 0 0 := by
  refine GM.of (cc := cX11_set) (maxL := 4) (ret := (some .boolean)) (own := RX11) (lv := [(0, .ref (q 0)), (1, .int z1), (2, .int z2)]) (by decide) rfl rfl (Nat.le_of_ble_eq_true rfl) rfl (fun κ sz hk hR hN => ?_)
  have hin11 : ∀ w ∈ u_ws RX11 TX11 10, w ∈ wz_k193_X11_set := fun w h => (List.mem_cons_of_mem _ (List.mem_append_right _ (List.mem_append_left _ h)))
  have hF : FE (fX11_set I A z1 z2) (fX11_set I A z1 z2) := FE.rf
  refine g_aload_n hk dX11_set_0 rfl ?_
  refine gX_r0_4 hk hin11 (List.mem_cons_of_mem _ (List.mem_append_left _ (List.mem_of_getElem? (i := 0) rfl))) dX11_set_1 ?_
  refine g_iload_n hk dX11_set_4 rfl ?_
  refine g_callV (n := 1) hk (k194_X7_valueOf l D zt q d I A z1 hIv) (SP.same _) (fun _ h => h) (gi_V (List.mem_cons_of_mem _ (List.mem_append_left _ (List.mem_of_getElem? (i := 1) rfl))) (List.mem_cons_of_mem _ (List.mem_append_left _ (List.mem_of_getElem? (i := 2) rfl))) (List.mem_cons_of_mem _ (List.mem_append_left _ (List.mem_of_getElem? (i := 3) rfl))) (List.mem_cons_of_mem _ (List.mem_append_left _ (List.mem_of_getElem? (i := 4) rfl))) (gi_sub (fun w h => (List.mem_cons_of_mem _ (List.mem_append_right _ (List.mem_append_right _ (List.mem_append_left _ h))))) zg_k174_X7_valueOf)) rfl rfl rfl (by decide +kernel) ⟨Nat.le_of_ble_eq_true rfl, Nat.le_of_ble_eq_true rfl⟩ 18 rfl rfl rfl rfl (Nat.le_of_ble_eq_true rfl) ⟨Nat.le_of_ble_eq_true rfl, Nat.le_of_ble_eq_true rfl⟩ dX11_set_5 (fun v ty' w' hp hk' => ?_)
  obtain ⟨y2177, hC, rfl, rfl⟩ := hp
  replace hF := FE.lt hF (fe_s hC)
  show GW κ 4 0 0 (wX q d I A) 8 [(0, .ref (q 0)), (1, .int z1), (2, .int z2)] [.int y2177]
  refine g_istore_n (lv' := [(3, .int y2177), (0, .ref (q 0)), (1, .int z1), (2, .int z2)]) hk dX11_set_8 (by decide) rfl ?_
  refine g_iload_n hk dX11_set_9 rfl ?_
  refine g_iload_n hk dX11_set_10 rfl ?_
  refine g_callS (n := 2) hk (k162_X7_allows l D zt q d I A z1 z2 hIv) (SP.same _) (fun _ h => h) (gi_S (List.mem_cons_of_mem _ (List.mem_append_left _ (List.mem_of_getElem? (i := 5) rfl))) (List.mem_cons_of_mem _ (List.mem_append_left _ (List.mem_of_getElem? (i := 6) rfl))) (List.mem_cons_of_mem _ (List.mem_append_left _ (List.mem_of_getElem? (i := 4) rfl))) (gi_sub (fun w h => (List.mem_cons_of_mem _ (List.mem_append_right _ (List.mem_append_right _ (List.mem_append_right _ (List.mem_append_left _ h)))))) zg_k162_X7_allows)) rfl rfl rfl (by decide +kernel) ⟨Nat.le_of_ble_eq_true rfl, Nat.le_of_ble_eq_true rfl⟩ rfl rfl (Nat.le_of_ble_eq_true rfl) ⟨Nat.le_of_ble_eq_true rfl, Nat.le_of_ble_eq_true rfl⟩ dX11_set_11 (fun v ty' w' hp hk' => ?_)
  rcases hp with ⟨hC, rfl, rfl⟩ | ⟨c2179, c2180, c2181, c2182, c2183, c2184, hC, rfl, rfl⟩
  · skip
    replace hF := FE.pos hF hC
    show GW κ 4 0 0 (wX q d I A) 14 [(3, .int y2177), (0, .ref (q 0)), (1, .int z1), (2, .int z2)] [.int 0]
    refine g_if_eq (tgt := 22) (a := 0) hk dX11_set_14 (by decide) rfl (fun _ => ?_) (fun z9 => absurd (show (0 : Int) = (0 : Int) from by decide) z9)
    refine g_iconst (v := 0) hk dX11_set_22 (by decide) ?_
    exact g_iret hk hR rfl ⟨I, A, (show Md [20, 21] I I from Md.rf), (show Md [10, 11, 12, 13] A A from Md.rf), hIv, 0, (by decide), (by decide), hF, rfl, rfl⟩ dX11_set_23
  · skip
    replace hF := FE.neg hF (fe_ne hC (by decide))
    show GW κ 4 0 0 (wX q d I A) 14 [(3, .int y2177), (0, .ref (q 0)), (1, .int z1), (2, .int z2)] [.int 1]
    refine g_if_eq (tgt := 22) (a := 1) hk dX11_set_14 (by decide) rfl (fun z9 => absurd z9 (show ¬ ((1 : Int) = (0 : Int)) from by decide)) (fun _ => ?_)
    refine g_iload_n hk dX11_set_17 rfl ?_
    refine g_iload_n hk dX11_set_18 rfl ?_
    have b2186l := Int32.le_toInt y2177
    have b2186h := Int32.toInt_lt y2177
    refine g_icmp_ne (tgt := 24) (a := y2177.toInt) (b := z2.toInt) hk dX11_set_19 (by decide) rfl rfl (fun c2187 => ?_) (fun c2187 => ?_)
    · skip
      replace hF := FE.pos hF c2187
      refine g_aload_n hk dX11_set_24 rfl ?_
      refine gX_r0_4 hk hin11 (List.mem_cons_of_mem _ (List.mem_append_left _ (List.mem_of_getElem? (i := 0) rfl))) dX11_set_25 ?_
      refine g_iload_n hk dX11_set_28 rfl ?_
      refine g_iload_n hk dX11_set_29 rfl ?_
      refine g_callV (n := 2) hk (k195_X7_put l D zt q d I A z1 z2 hIv) (SP.same _) (fun _ h => h) (gi_V (List.mem_cons_of_mem _ (List.mem_append_left _ (List.mem_of_getElem? (i := 7) rfl))) (List.mem_cons_of_mem _ (List.mem_append_left _ (List.mem_of_getElem? (i := 8) rfl))) (List.mem_cons_of_mem _ (List.mem_append_left _ (List.mem_of_getElem? (i := 9) rfl))) (List.mem_cons_of_mem _ (List.mem_append_left _ (List.mem_of_getElem? (i := 4) rfl))) (gi_sub (fun w h => (List.mem_cons_of_mem _ (List.mem_append_right _ (List.mem_append_right _ (List.mem_append_right _ (List.mem_append_right _ (List.mem_append_left _ h))))))) zg_k121_X7_put)) rfl rfl rfl (by decide +kernel) ⟨Nat.le_of_ble_eq_true rfl, Nat.le_of_ble_eq_true rfl⟩ 18 rfl rfl rfl rfl (Nat.le_of_ble_eq_true rfl) ⟨Nat.le_of_ble_eq_true rfl, Nat.le_of_ble_eq_true rfl⟩ dX11_set_30 (fun v ty' w' hp hk' => ?_)
      obtain ⟨I2192, A2192, hI2192, hA2192, hV2192, hC, rfl, rfl⟩ := hp
      replace hF := FE.bdX hF hC
      show GW κ 4 0 0 (wX q d I2192 A2192) 33 [(3, .int y2177), (0, .ref (q 0)), (1, .int z1), (2, .int z2)] []
      refine g_aload_n hk dX11_set_33 rfl ?_
      refine gX_r0_5 hk hin11 (List.mem_cons_of_mem _ (List.mem_append_left _ (List.mem_of_getElem? (i := 10) rfl))) dX11_set_34 ?_
      refine g_iconst (v := 3) hk dX11_set_37 (by decide) ?_
      refine g_iload_n hk dX11_set_38 rfl ?_
      refine g_iload_n hk dX11_set_39 rfl ?_
      have k2193 : (3 : Int32).toInt = 3 := rfl
      refine g_callV (n := 3) hk (k185_X3_note l D zt q d I2192 A2192 3 z1 y2177 hV2192) (SP.same _) (fun _ h => h) (gi_V (List.mem_cons_of_mem _ (List.mem_append_left _ (List.mem_of_getElem? (i := 11) rfl))) (List.mem_cons_of_mem _ (List.mem_append_left _ (List.mem_of_getElem? (i := 12) rfl))) (List.mem_cons_of_mem _ (List.mem_append_left _ (List.mem_of_getElem? (i := 13) rfl))) (List.mem_cons_of_mem _ (List.mem_append_left _ (List.mem_of_getElem? (i := 14) rfl))) (gi_sub (fun w h => (List.mem_cons_of_mem _ (List.mem_append_right _ (List.mem_append_right _ (List.mem_append_right _ (List.mem_append_right _ (List.mem_append_right _ (List.mem_append_left _ h)))))))) zg_k185_X3_note)) rfl rfl rfl (by decide +kernel) ⟨Nat.le_of_ble_eq_true rfl, Nat.le_of_ble_eq_true rfl⟩ 20 rfl rfl rfl rfl (Nat.le_of_ble_eq_true rfl) ⟨Nat.le_of_ble_eq_true rfl, Nat.le_of_ble_eq_true rfl⟩ dX11_set_40 (fun v ty' w' hp hk' => ?_)
      obtain ⟨I2195, A2195, hI2195, hA2195, hV2195, hC, rfl, rfl⟩ := hp
      replace hF := FE.bdX hF hC
      show GW κ 4 0 0 (wX q d I2195 A2195) 43 [(3, .int y2177), (0, .ref (q 0)), (1, .int z1), (2, .int z2)] []
      refine g_iconst (v := 1) hk dX11_set_43 (by decide) ?_
      exact g_iret hk hR rfl ⟨I2195, A2195, (show Md [20, 21] I I2195 from (Md.tr (Md.tr Md.rf hI2192 rfl) hI2195 rfl)), (show Md [10, 11, 12, 13] A A2195 from (Md.tr (Md.tr Md.rf hA2192 rfl) hA2195 rfl)), hV2195, 1, (by decide), (by decide), hF, rfl, rfl⟩ dX11_set_44
    · skip
      replace hF := FE.neg hF c2187
      refine g_iconst (v := 0) hk dX11_set_22 (by decide) ?_
      exact g_iret hk hR rfl ⟨I, A, (show Md [20, 21] I I from Md.rf), (show Md [10, 11, 12, 13] A A from Md.rf), hIv, 0, (by decide), (by decide), hF, rfl, rfl⟩ dX11_set_23
noncomputable def fX3_stepBack (I : Nat → Int32) (A : Nat → Nat → Int32) : Int32 × (Nat → Int32) × (Nat → Nat → Int32) := if 1 ≤ (I 21).toInt then if (I 20).toInt ≠ 0 then f_lt ((I 20) - (1 : Int32)) fun y2200 => f_lt ((I 21) - (1 : Int32)) fun y2201 => (1, (upd (upd I 20 y2200) 21 y2201), A) else f_lt ((I 21) - (1 : Int32)) fun y2202 => (1, (upd (upd I 20 39) 21 y2202), A) else (0, I, A)
def wo_k197_X3_stepBack : List Cond := [Cond.fieldLink RX3 19 "WarpDesk$Past" "size" "I", Cond.fieldLink RX3 23 "WarpDesk$Past" "next" "I"]
def wz_k197_X3_stepBack : List Cond := .code yX3_stepBack cX3_stepBack 1 (some .boolean) :: (wo_k197_X3_stepBack ++ (wsX30 ++ ([] : List Cond)))
theorem zg_k197_X3_stepBack : ∀ w ∈ wz_k197_X3_stepBack, goodWord w = true := zg_cons rfl (zg_app (by decide +kernel) (zg_app zgU_wsX30 zg_nil))
theorem zi_k197_X3_stepBack : ∀ w ∈ wz_k197_X3_stepBack, w ∈ lw_tbl := zi_cons zw_873 (zi_app (zi_cons zw_306 (zi_cons zw_305 zi_nil)) (zi_app inX3 zi_nil))
set_option maxHeartbeats 4000000 in
set_option maxRecDepth 100000 in
theorem k197_X3_stepBack (l : Launch) (D : va_G) (zt : Nat × Nat × Nat × (Nat → Nat) × (Nat → Nat)) (q : Nat → Nat) (d : Nat → ClassId) (I : Nat → Int32) (A : Nat → Nat → Int32) (hIv : IvX I A) : GM l D zt (tyX d) yX3_stepBack wz_k197_X3_stepBack ({ frames := 0, cells := 0, slots := 0, locals := 0 } : Room) [.ref (q 20)] (wX q d I A) (fun v _ w' => ∃ (I' : Nat → Int32) (A' : Nat → Nat → Int32), Md [20, 21] I I' ∧ Md [] A A' ∧ IvX I' A' ∧ ∃ y0 : Int32, (0 ≤ y0.toInt) ∧ (y0.toInt ≤ 1) ∧ FE (fX3_stepBack I A) (y0, I', A') ∧ v = some (.int y0) ∧ w' = wX q d I' A') 0 0 := by
  refine GM.of (cc := cX3_stepBack) (maxL := 1) (ret := (some .boolean)) (own := RX3) (lv := [(0, .ref (q 20))]) (by decide) rfl rfl (Nat.le_of_ble_eq_true rfl) rfl (fun κ sz hk hR hN => ?_)
  have hin3 : ∀ w ∈ u_ws RX3 TX3 5, w ∈ wz_k197_X3_stepBack := fun w h => (List.mem_cons_of_mem _ (List.mem_append_right _ (List.mem_append_left _ h)))
  have hF : FE (fX3_stepBack I A) (fX3_stepBack I A) := FE.rf
  refine g_aload_n hk dX3_stepBack_0 rfl ?_
  refine gX_i21 (v := (I 21)) hk hin3 (List.mem_cons_of_mem _ (List.mem_append_left _ (List.mem_of_getElem? (i := 0) rfl))) dX3_stepBack_1 rfl ?_
  refine g_iconst (v := 1) hk dX3_stepBack_4 (by decide) ?_
  have b2196l := Int32.le_toInt (I 21)
  have b2196h := Int32.toInt_lt (I 21)
  refine g_icmp_ge (tgt := 10) (a := (I 21).toInt) (b := 1) hk dX3_stepBack_5 (by decide) rfl rfl (fun c2197 => ?_) (fun c2197 => ?_)
  · skip
    replace hF := FE.pos hF c2197
    refine g_aload_n hk dX3_stepBack_10 rfl ?_
    refine g_aload_n hk dX3_stepBack_11 rfl ?_
    refine gX_i20 (v := (I 20)) hk hin3 (List.mem_cons_of_mem _ (List.mem_append_left _ (List.mem_of_getElem? (i := 1) rfl))) dX3_stepBack_12 rfl ?_
    have b2198l := Int32.le_toInt (I 20)
    have b2198h := Int32.toInt_lt (I 20)
    refine g_if_ne (tgt := 23) (a := (I 20).toInt) hk dX3_stepBack_15 (by decide) rfl (fun c2199 => ?_) (fun c2199 => ?_)
    · skip
      replace hF := FE.pos hF c2199
      refine g_aload_n hk dX3_stepBack_23 rfl ?_
      refine gX_i20 (v := (I 20)) hk hin3 (List.mem_cons_of_mem _ (List.mem_append_left _ (List.mem_of_getElem? (i := 1) rfl))) dX3_stepBack_24 rfl ?_
      refine g_iconst (v := 1) hk dX3_stepBack_27 (by decide) ?_
      refine g_isub hk dX3_stepBack_28 ?_
      refine g_topi (fun y2200 ey2200 => ?_)
      replace hF := FE.lt hF ey2200
      have hy2200 := i32_sub0 ey2200
      refine pX_i20 hk hin3 (List.mem_cons_of_mem _ (List.mem_append_left _ (List.mem_of_getElem? (i := 1) rfl))) dX3_stepBack_29 ?_
      refine g_aload_n hk dX3_stepBack_32 rfl ?_
      refine g_dup hk dX3_stepBack_33 rfl ?_
      refine gX_i21 (v := (I 21)) hk hin3 (List.mem_cons_of_mem _ (List.mem_append_left _ (List.mem_of_getElem? (i := 0) rfl))) dX3_stepBack_34 rfl ?_
      refine g_iconst (v := 1) hk dX3_stepBack_37 (by decide) ?_
      refine g_isub hk dX3_stepBack_38 ?_
      refine g_topi (fun y2201 ey2201 => ?_)
      replace hF := FE.lt hF ey2201
      have hy2201 : y2201.toInt = (I 21).toInt - 1 := i32_sub ey2201 rfl rfl (by omega) (by omega)
      refine pX_i21 hk hin3 (List.mem_cons_of_mem _ (List.mem_append_left _ (List.mem_of_getElem? (i := 0) rfl))) dX3_stepBack_39 ?_
      refine g_iconst (v := 1) hk dX3_stepBack_42 (by decide) ?_
      exact g_iret hk hR rfl ⟨(upd (upd I 20 y2200) 21 y2201), A, (show Md [20, 21] I (upd (upd I 20 y2200) 21 y2201) from (Md.up (Md.up Md.rf rfl) rfl)), (show Md [] A A from Md.rf), ⟨(IvX_f0 (I := I) (A := A) hIv), (IvX_f18 (I := I) (A := A) hIv), (IvX_f30 (I := I) (A := A) hIv), (IvX_f31 (I := I) (A := A) hIv), (IvX_a4 (I := I) (A := A) hIv), (IvX_a9 (I := I) (A := A) hIv), trivial⟩, 1, (by decide), (by decide), hF, rfl, rfl⟩ dX3_stepBack_43
    · skip
      replace hF := FE.neg hF c2199
      refine g_bipush (v := 39) hk dX3_stepBack_18 (by decide) ?_
      refine g_goto (tgt := 29) hk dX3_stepBack_20 (by decide) ?_
      refine pX_i20 hk hin3 (List.mem_cons_of_mem _ (List.mem_append_left _ (List.mem_of_getElem? (i := 1) rfl))) dX3_stepBack_29 ?_
      refine g_aload_n hk dX3_stepBack_32 rfl ?_
      refine g_dup hk dX3_stepBack_33 rfl ?_
      refine gX_i21 (v := (I 21)) hk hin3 (List.mem_cons_of_mem _ (List.mem_append_left _ (List.mem_of_getElem? (i := 0) rfl))) dX3_stepBack_34 rfl ?_
      refine g_iconst (v := 1) hk dX3_stepBack_37 (by decide) ?_
      refine g_isub hk dX3_stepBack_38 ?_
      refine g_topi (fun y2202 ey2202 => ?_)
      replace hF := FE.lt hF ey2202
      have hy2202 : y2202.toInt = (I 21).toInt - 1 := i32_sub ey2202 rfl rfl (by omega) (by omega)
      refine pX_i21 hk hin3 (List.mem_cons_of_mem _ (List.mem_append_left _ (List.mem_of_getElem? (i := 0) rfl))) dX3_stepBack_39 ?_
      refine g_iconst (v := 1) hk dX3_stepBack_42 (by decide) ?_
      exact g_iret hk hR rfl ⟨(upd (upd I 20 39) 21 y2202), A, (show Md [20, 21] I (upd (upd I 20 39) 21 y2202) from (Md.up (Md.up Md.rf rfl) rfl)), (show Md [] A A from Md.rf), ⟨(IvX_f0 (I := I) (A := A) hIv), (IvX_f18 (I := I) (A := A) hIv), (IvX_f30 (I := I) (A := A) hIv), (IvX_f31 (I := I) (A := A) hIv), (IvX_a4 (I := I) (A := A) hIv), (IvX_a9 (I := I) (A := A) hIv), trivial⟩, 1, (by decide), (by decide), hF, rfl, rfl⟩ dX3_stepBack_43
  · skip
    replace hF := FE.neg hF c2197
    refine g_iconst (v := 0) hk dX3_stepBack_8 (by decide) ?_
    exact g_iret hk hR rfl ⟨I, A, (show Md [20, 21] I I from Md.rf), (show Md [] A A from Md.rf), hIv, 0, (by decide), (by decide), hF, rfl, rfl⟩ dX3_stepBack_9
noncomputable def fX3_valueIn (I : Nat → Int32) (A : Nat → Nat → Int32) (z1 : Int32) : Int32 := if z1.toInt < 0 then 0 else if 40 ≤ z1.toInt then 0 else (A 12 z1.toNatClampNeg)
def wz_k199_X3_valueIn : List Cond := .code yX3_valueIn cX3_valueIn 2 (some .int) :: (wo_k126_X10_isLetter ++ ([] : List Cond))
theorem zg_k199_X3_valueIn : ∀ w ∈ wz_k199_X3_valueIn, goodWord w = true := zg_cons rfl (zg_app (by decide +kernel) zg_nil)
theorem zi_k199_X3_valueIn : ∀ w ∈ wz_k199_X3_valueIn, w ∈ lw_tbl := zi_cons zw_880 (zi_app zi_nil zi_nil)
set_option maxHeartbeats 4000000 in
set_option maxRecDepth 100000 in
theorem k199_X3_valueIn (l : Launch) (D : va_G) (zt : Nat × Nat × Nat × (Nat → Nat) × (Nat → Nat)) (q : Nat → Nat) (d : Nat → ClassId) (I : Nat → Int32) (A : Nat → Nat → Int32) (z1 : Int32) (hIv : IvX I A) : GM l D zt (tyX d) yX3_valueIn wz_k199_X3_valueIn ({ frames := 0, cells := 0, slots := 0, locals := 0 } : Room) [.ref (q 22), .int z1] (wX q d I A) (fun v _ w' => ∃ y0 : Int32, FE (fX3_valueIn I A z1) y0 ∧ v = some (.int y0) ∧ w' = wX q d I A) 0 0 := by
  refine GM.of (cc := cX3_valueIn) (maxL := 2) (ret := (some .int)) (own := RX3) (lv := [(0, .ref (q 22)), (1, .int z1)]) (by decide) rfl rfl (Nat.le_of_ble_eq_true rfl) rfl (fun κ sz hk hR hN => ?_)
  have hF : FE (fX3_valueIn I A z1) (fX3_valueIn I A z1) := FE.rf
  refine g_iload_n hk dX3_valueIn_0 rfl ?_
  have b2208l := Int32.le_toInt z1
  have b2208h := Int32.toInt_lt z1
  refine g_if_lt (tgt := 16) (a := z1.toInt) hk dX3_valueIn_1 (by decide) rfl (fun c2209 => ?_) (fun c2209 => ?_)
  · skip
    replace hF := FE.pos hF c2209
    refine g_iconst (v := 0) hk dX3_valueIn_16 (by decide) ?_
    exact g_iret hk hR rfl ⟨0, hF, rfl, rfl⟩ dX3_valueIn_17
  · skip
    replace hF := FE.neg hF c2209
    refine g_iload_n hk dX3_valueIn_4 rfl ?_
    refine g_aload_n hk dX3_valueIn_5 rfl ?_
    refine nX_12 hk dX3_valueIn_6 ?_
    refine g_icmp_ge (tgt := 16) (a := z1.toInt) (b := 40) hk dX3_valueIn_7 (by decide) rfl rfl (fun c2210 => ?_) (fun c2210 => ?_)
    · skip
      replace hF := FE.pos hF c2210
      refine g_iconst (v := 0) hk dX3_valueIn_16 (by decide) ?_
      exact g_iret hk hR rfl ⟨0, hF, rfl, rfl⟩ dX3_valueIn_17
    · skip
      replace hF := FE.neg hF c2210
      refine g_aload_n hk dX3_valueIn_10 rfl ?_
      refine g_iload_n hk dX3_valueIn_11 rfl ?_
      refine lX_12 (v := (A 12 z1.toNatClampNeg)) hk (vp_in_iff.mpr ⟨by omega, by omega⟩) rfl dX3_valueIn_12 ?_
      refine g_goto (tgt := 17) hk dX3_valueIn_13 (by decide) ?_
      have b2211l := Int32.le_toInt (A 12 z1.toNatClampNeg)
      have b2211h := Int32.toInt_lt (A 12 z1.toNatClampNeg)
      exact g_iret hk hR rfl ⟨(A 12 z1.toNatClampNeg), hF, rfl, rfl⟩ dX3_valueIn_17
noncomputable def fX3_firstOfStep (I : Nat → Int32) (A : Nat → Nat → Int32) : Int32 := f_lt (fX3_valueIn I A (I 20)) fun y2212 => y2212
def wo_k198_X3_firstOfStep : List Cond := [Cond.fieldLink RX3 13 "WarpDesk$Past" "firsts" "[I", Cond.fieldLink RX3 23 "WarpDesk$Past" "next" "I", Cond.methodLink RX3 32 yX3_valueIn, Cond.static yX3_valueIn, Cond.initialized RX3]
def wz_k198_X3_firstOfStep : List Cond := .code yX3_firstOfStep cX3_firstOfStep 1 (some .int) :: (wo_k198_X3_firstOfStep ++ (wsX30 ++ (wz_k199_X3_valueIn ++ ([] : List Cond))))
theorem zg_k198_X3_firstOfStep : ∀ w ∈ wz_k198_X3_firstOfStep, goodWord w = true := zg_cons rfl (zg_app (by decide +kernel) (zg_app zgU_wsX30 (zg_app zg_k199_X3_valueIn zg_nil)))
theorem zi_k198_X3_firstOfStep : ∀ w ∈ wz_k198_X3_firstOfStep, w ∈ lw_tbl := zi_cons zw_877 (zi_app (zi_cons zw_303 (zi_cons zw_305 (zi_cons zw_878 (zi_cons zw_879 (zi_cons zw_110 zi_nil))))) (zi_app inX3 (zi_app zi_k199_X3_valueIn zi_nil)))
set_option maxHeartbeats 4000000 in
set_option maxRecDepth 100000 in
theorem k198_X3_firstOfStep (l : Launch) (D : va_G) (zt : Nat × Nat × Nat × (Nat → Nat) × (Nat → Nat)) (q : Nat → Nat) (d : Nat → ClassId) (I : Nat → Int32) (A : Nat → Nat → Int32) (hIv : IvX I A) : GM l D zt (tyX d) yX3_firstOfStep wz_k198_X3_firstOfStep ({ frames := 1, cells := 0, slots := 0, locals := 21 } : Room) [.ref (q 20)] (wX q d I A) (fun v _ w' => ∃ y0 : Int32, FE (fX3_firstOfStep I A) y0 ∧ v = some (.int y0) ∧ w' = wX q d I A) 0 0 := by
  refine GM.of (cc := cX3_firstOfStep) (maxL := 1) (ret := (some .int)) (own := RX3) (lv := [(0, .ref (q 20))]) (by decide) rfl rfl (Nat.le_of_ble_eq_true rfl) rfl (fun κ sz hk hR hN => ?_)
  have hin3 : ∀ w ∈ u_ws RX3 TX3 5, w ∈ wz_k198_X3_firstOfStep := fun w h => (List.mem_cons_of_mem _ (List.mem_append_right _ (List.mem_append_left _ h)))
  have hF : FE (fX3_firstOfStep I A) (fX3_firstOfStep I A) := FE.rf
  refine g_aload_n hk dX3_firstOfStep_0 rfl ?_
  refine gX_r20_1 hk hin3 (List.mem_cons_of_mem _ (List.mem_append_left _ (List.mem_of_getElem? (i := 0) rfl))) dX3_firstOfStep_1 ?_
  refine g_aload_n hk dX3_firstOfStep_4 rfl ?_
  refine gX_i20 (v := (I 20)) hk hin3 (List.mem_cons_of_mem _ (List.mem_append_left _ (List.mem_of_getElem? (i := 1) rfl))) dX3_firstOfStep_5 rfl ?_
  refine g_callS (n := 2) hk (k199_X3_valueIn l D zt q d I A (I 20) hIv) (SP.same _) (fun _ h => h) (gi_S (List.mem_cons_of_mem _ (List.mem_append_left _ (List.mem_of_getElem? (i := 2) rfl))) (List.mem_cons_of_mem _ (List.mem_append_left _ (List.mem_of_getElem? (i := 3) rfl))) (List.mem_cons_of_mem _ (List.mem_append_left _ (List.mem_of_getElem? (i := 4) rfl))) (gi_sub (fun w h => (List.mem_cons_of_mem _ (List.mem_append_right _ (List.mem_append_right _ (List.mem_append_left _ h))))) zg_k199_X3_valueIn)) rfl rfl rfl (by decide +kernel) ⟨Nat.le_of_ble_eq_true rfl, Nat.le_of_ble_eq_true rfl⟩ rfl rfl (Nat.le_of_ble_eq_true rfl) ⟨Nat.le_of_ble_eq_true rfl, Nat.le_of_ble_eq_true rfl⟩ dX3_firstOfStep_8 (fun v ty' w' hp hk' => ?_)
  obtain ⟨y2212, hC, rfl, rfl⟩ := hp
  replace hF := FE.lt hF (fe_s hC)
  show GW κ 1 0 0 (wX q d I A) 11 [(0, .ref (q 20))] [.int y2212]
  have b2213l := Int32.le_toInt y2212
  have b2213h := Int32.toInt_lt y2212
  exact g_iret hk hR rfl ⟨y2212, hF, rfl, rfl⟩ dX3_firstOfStep_11
noncomputable def fX3_valueIn_2 (I : Nat → Int32) (A : Nat → Nat → Int32) (z1 : Int32) : Int32 := if z1.toInt < 0 then 0 else if 40 ≤ z1.toInt then 0 else (A 11 z1.toNatClampNeg)
set_option maxHeartbeats 4000000 in
set_option maxRecDepth 100000 in
theorem k201_X3_valueIn (l : Launch) (D : va_G) (zt : Nat × Nat × Nat × (Nat → Nat) × (Nat → Nat)) (q : Nat → Nat) (d : Nat → ClassId) (I : Nat → Int32) (A : Nat → Nat → Int32) (z1 : Int32) (hIv : IvX I A) : GM l D zt (tyX d) yX3_valueIn wz_k199_X3_valueIn ({ frames := 0, cells := 0, slots := 0, locals := 0 } : Room) [.ref (q 21), .int z1] (wX q d I A) (fun v _ w' => ∃ y0 : Int32, FE (fX3_valueIn_2 I A z1) y0 ∧ v = some (.int y0) ∧ w' = wX q d I A) 0 0 := by
  refine GM.of (cc := cX3_valueIn) (maxL := 2) (ret := (some .int)) (own := RX3) (lv := [(0, .ref (q 21)), (1, .int z1)]) (by decide) rfl rfl (Nat.le_of_ble_eq_true rfl) rfl (fun κ sz hk hR hN => ?_)
  have hF : FE (fX3_valueIn_2 I A z1) (fX3_valueIn_2 I A z1) := FE.rf
  refine g_iload_n hk dX3_valueIn_0 rfl ?_
  have b2215l := Int32.le_toInt z1
  have b2215h := Int32.toInt_lt z1
  refine g_if_lt (tgt := 16) (a := z1.toInt) hk dX3_valueIn_1 (by decide) rfl (fun c2216 => ?_) (fun c2216 => ?_)
  · skip
    replace hF := FE.pos hF c2216
    refine g_iconst (v := 0) hk dX3_valueIn_16 (by decide) ?_
    exact g_iret hk hR rfl ⟨0, hF, rfl, rfl⟩ dX3_valueIn_17
  · skip
    replace hF := FE.neg hF c2216
    refine g_iload_n hk dX3_valueIn_4 rfl ?_
    refine g_aload_n hk dX3_valueIn_5 rfl ?_
    refine nX_11 hk dX3_valueIn_6 ?_
    refine g_icmp_ge (tgt := 16) (a := z1.toInt) (b := 40) hk dX3_valueIn_7 (by decide) rfl rfl (fun c2217 => ?_) (fun c2217 => ?_)
    · skip
      replace hF := FE.pos hF c2217
      refine g_iconst (v := 0) hk dX3_valueIn_16 (by decide) ?_
      exact g_iret hk hR rfl ⟨0, hF, rfl, rfl⟩ dX3_valueIn_17
    · skip
      replace hF := FE.neg hF c2217
      refine g_aload_n hk dX3_valueIn_10 rfl ?_
      refine g_iload_n hk dX3_valueIn_11 rfl ?_
      refine lX_11 (v := (A 11 z1.toNatClampNeg)) hk (vp_in_iff.mpr ⟨by omega, by omega⟩) rfl dX3_valueIn_12 ?_
      refine g_goto (tgt := 17) hk dX3_valueIn_13 (by decide) ?_
      have b2218l := Int32.le_toInt (A 11 z1.toNatClampNeg)
      have b2218h := Int32.toInt_lt (A 11 z1.toNatClampNeg)
      exact g_iret hk hR rfl ⟨(A 11 z1.toNatClampNeg), hF, rfl, rfl⟩ dX3_valueIn_17
noncomputable def fX3_kindOfStep (I : Nat → Int32) (A : Nat → Nat → Int32) : Int32 := f_lt (fX3_valueIn_2 I A (I 20)) fun y2219 => y2219
def wo_k200_X3_kindOfStep : List Cond := [Cond.fieldLink RX3 9 "WarpDesk$Past" "kinds" "[I", Cond.fieldLink RX3 23 "WarpDesk$Past" "next" "I", Cond.methodLink RX3 32 yX3_valueIn, Cond.static yX3_valueIn, Cond.initialized RX3]
def wz_k200_X3_kindOfStep : List Cond := .code yX3_kindOfStep cX3_kindOfStep 1 (some .int) :: (wo_k200_X3_kindOfStep ++ (wsX30 ++ (wz_k199_X3_valueIn ++ ([] : List Cond))))
theorem zg_k200_X3_kindOfStep : ∀ w ∈ wz_k200_X3_kindOfStep, goodWord w = true := zg_cons rfl (zg_app (by decide +kernel) (zg_app zgU_wsX30 (zg_app zg_k199_X3_valueIn zg_nil)))
theorem zi_k200_X3_kindOfStep : ∀ w ∈ wz_k200_X3_kindOfStep, w ∈ lw_tbl := zi_cons zw_884 (zi_app (zi_cons zw_302 (zi_cons zw_305 (zi_cons zw_878 (zi_cons zw_879 (zi_cons zw_110 zi_nil))))) (zi_app inX3 (zi_app zi_k199_X3_valueIn zi_nil)))
set_option maxHeartbeats 4000000 in
set_option maxRecDepth 100000 in
theorem k200_X3_kindOfStep (l : Launch) (D : va_G) (zt : Nat × Nat × Nat × (Nat → Nat) × (Nat → Nat)) (q : Nat → Nat) (d : Nat → ClassId) (I : Nat → Int32) (A : Nat → Nat → Int32) (hIv : IvX I A) : GM l D zt (tyX d) yX3_kindOfStep wz_k200_X3_kindOfStep ({ frames := 1, cells := 0, slots := 0, locals := 21 } : Room) [.ref (q 20)] (wX q d I A) (fun v _ w' => ∃ y0 : Int32, FE (fX3_kindOfStep I A) y0 ∧ v = some (.int y0) ∧ w' = wX q d I A) 0 0 := by
  refine GM.of (cc := cX3_kindOfStep) (maxL := 1) (ret := (some .int)) (own := RX3) (lv := [(0, .ref (q 20))]) (by decide) rfl rfl (Nat.le_of_ble_eq_true rfl) rfl (fun κ sz hk hR hN => ?_)
  have hin3 : ∀ w ∈ u_ws RX3 TX3 5, w ∈ wz_k200_X3_kindOfStep := fun w h => (List.mem_cons_of_mem _ (List.mem_append_right _ (List.mem_append_left _ h)))
  have hF : FE (fX3_kindOfStep I A) (fX3_kindOfStep I A) := FE.rf
  refine g_aload_n hk dX3_kindOfStep_0 rfl ?_
  refine gX_r20_0 hk hin3 (List.mem_cons_of_mem _ (List.mem_append_left _ (List.mem_of_getElem? (i := 0) rfl))) dX3_kindOfStep_1 ?_
  refine g_aload_n hk dX3_kindOfStep_4 rfl ?_
  refine gX_i20 (v := (I 20)) hk hin3 (List.mem_cons_of_mem _ (List.mem_append_left _ (List.mem_of_getElem? (i := 1) rfl))) dX3_kindOfStep_5 rfl ?_
  refine g_callS (n := 2) hk (k201_X3_valueIn l D zt q d I A (I 20) hIv) (SP.same _) (fun _ h => h) (gi_S (List.mem_cons_of_mem _ (List.mem_append_left _ (List.mem_of_getElem? (i := 2) rfl))) (List.mem_cons_of_mem _ (List.mem_append_left _ (List.mem_of_getElem? (i := 3) rfl))) (List.mem_cons_of_mem _ (List.mem_append_left _ (List.mem_of_getElem? (i := 4) rfl))) (gi_sub (fun w h => (List.mem_cons_of_mem _ (List.mem_append_right _ (List.mem_append_right _ (List.mem_append_left _ h))))) zg_k199_X3_valueIn)) rfl rfl rfl (by decide +kernel) ⟨Nat.le_of_ble_eq_true rfl, Nat.le_of_ble_eq_true rfl⟩ rfl rfl (Nat.le_of_ble_eq_true rfl) ⟨Nat.le_of_ble_eq_true rfl, Nat.le_of_ble_eq_true rfl⟩ dX3_kindOfStep_8 (fun v ty' w' hp hk' => ?_)
  obtain ⟨y2219, hC, rfl, rfl⟩ := hp
  replace hF := FE.lt hF (fe_s hC)
  show GW κ 1 0 0 (wX q d I A) 11 [(0, .ref (q 20))] [.int y2219]
  have b2220l := Int32.le_toInt y2219
  have b2220h := Int32.toInt_lt y2219
  exact g_iret hk hR rfl ⟨y2219, hF, rfl, rfl⟩ dX3_kindOfStep_11
noncomputable def fX6_cutLast (I : Nat → Int32) (A : Nat → Nat → Int32) : Int32 × (Nat → Int32) × (Nat → Nat → Int32) := if (I 18).toInt ≤ 0 then (0, I, A) else f_lt ((I 18) - (1 : Int32)) fun y2225 => (0, (upd I 18 y2225), A)
def wo_k202_X6_cutLast : List Cond := [Cond.fieldLink RX6 19 "WarpDesk$Series" "size" "I"]
def wz_k202_X6_cutLast : List Cond := .code yX6_cutLast cX6_cutLast 1 none :: (wo_k202_X6_cutLast ++ (wsX60 ++ ([] : List Cond)))
theorem zg_k202_X6_cutLast : ∀ w ∈ wz_k202_X6_cutLast, goodWord w = true := zg_cons rfl (zg_app (by decide +kernel) (zg_app zgU_wsX60 zg_nil))
theorem zi_k202_X6_cutLast : ∀ w ∈ wz_k202_X6_cutLast, w ∈ lw_tbl := zi_cons zw_888 (zi_app (zi_cons zw_282 zi_nil) (zi_app inX6 zi_nil))
set_option maxHeartbeats 4000000 in
set_option maxRecDepth 100000 in
theorem k202_X6_cutLast (l : Launch) (D : va_G) (zt : Nat × Nat × Nat × (Nat → Nat) × (Nat → Nat)) (q : Nat → Nat) (d : Nat → ClassId) (I : Nat → Int32) (A : Nat → Nat → Int32) (hIv : IvX I A) : GM l D zt (tyX d) yX6_cutLast wz_k202_X6_cutLast ({ frames := 0, cells := 0, slots := 0, locals := 0 } : Room) [.ref (q 13)] (wX q d I A) (fun v _ w' => ∃ (I' : Nat → Int32) (A' : Nat → Nat → Int32), Md [18] I I' ∧ Md [] A A' ∧ IvX I' A' ∧ FE (fX6_cutLast I A) (0, I', A') ∧ v = none ∧ w' = wX q d I' A') 0 0 := by
  refine GM.of (cc := cX6_cutLast) (maxL := 1) (ret := none) (own := RX6) (lv := [(0, .ref (q 13))]) (by decide) rfl rfl (Nat.le_of_ble_eq_true rfl) rfl (fun κ sz hk hR hN => ?_)
  have hin6 : ∀ w ∈ u_ws RX6 TX6 3, w ∈ wz_k202_X6_cutLast := fun w h => (List.mem_cons_of_mem _ (List.mem_append_right _ (List.mem_append_left _ h)))
  have hF : FE (fX6_cutLast I A) (fX6_cutLast I A) := FE.rf
  refine g_aload_n hk dX6_cutLast_0 rfl ?_
  refine gX_i18 (v := (I 18)) hk hin6 (List.mem_cons_of_mem _ (List.mem_append_left _ (List.mem_of_getElem? (i := 0) rfl))) dX6_cutLast_1 rfl ?_
  have f2223 := IvX_f18 hIv
  refine g_if_le (tgt := 17) (a := (I 18).toInt) hk dX6_cutLast_4 (by decide) rfl (fun c2224 => ?_) (fun c2224 => ?_)
  · skip
    replace hF := FE.pos hF c2224
    exact g_vret hk hR ⟨I, A, (show Md [18] I I from Md.rf), (show Md [] A A from Md.rf), hIv, hF, rfl, rfl⟩ dX6_cutLast_17
  · skip
    replace hF := FE.neg hF c2224
    refine g_aload_n hk dX6_cutLast_7 rfl ?_
    refine g_dup hk dX6_cutLast_8 rfl ?_
    refine gX_i18 (v := (I 18)) hk hin6 (List.mem_cons_of_mem _ (List.mem_append_left _ (List.mem_of_getElem? (i := 0) rfl))) dX6_cutLast_9 rfl ?_
    refine g_iconst (v := 1) hk dX6_cutLast_12 (by decide) ?_
    refine g_isub hk dX6_cutLast_13 ?_
    refine g_topi (fun y2225 ey2225 => ?_)
    replace hF := FE.lt hF ey2225
    have hy2225 : y2225.toInt = (I 18).toInt - 1 := i32_sub ey2225 rfl rfl (by omega) (by omega)
    refine pX_i18 hk hin6 (List.mem_cons_of_mem _ (List.mem_append_left _ (List.mem_of_getElem? (i := 0) rfl))) dX6_cutLast_14 ?_
    exact g_vret hk hR ⟨(upd I 18 y2225), A, (show Md [18] I (upd I 18 y2225) from (Md.up Md.rf rfl)), (show Md [] A A from Md.rf), ⟨(IvX_f0 (I := I) (A := A) hIv), (show 0 ≤ y2225.toInt ∧ y2225.toInt ≤ 160 from ⟨by omega, by omega⟩), (IvX_f30 (I := I) (A := A) hIv), (IvX_f31 (I := I) (A := A) hIv), (IvX_a4 (I := I) (A := A) hIv), (IvX_a9 (I := I) (A := A) hIv), trivial⟩, hF, rfl, rfl⟩ dX6_cutLast_17
noncomputable def fX6_bringBackFirst (I : Nat → Int32) (A : Nat → Nat → Int32) (z1 : Int32) : Int32 × (Nat → Int32) × (Nat → Nat → Int32) := if z1.toInt < 1 then (0, I, A) else f_lt ((160 : Int32) - (I 18)) fun y2236 => if y2236.toInt < z1.toInt then (0, I, A) else f_lt ((I 17) - z1) fun y2239 => f_lt (y2239 &&& (255 : Int32)) fun y2241 => f_lt ((I 18) + z1) fun y2242 => (0, (upd (upd I 17 y2241) 18 y2242), A)
def wz_k203_X6_bringBackFirst : List Cond := .code yX6_bringBackFirst cX6_bringBackFirst 2 none :: (wo_k192_X6_cutFirst ++ (wsX60 ++ ([] : List Cond)))
theorem zg_k203_X6_bringBackFirst : ∀ w ∈ wz_k203_X6_bringBackFirst, goodWord w = true := zg_cons rfl (zg_app (by decide +kernel) (zg_app zgU_wsX60 zg_nil))
theorem zi_k203_X6_bringBackFirst : ∀ w ∈ wz_k203_X6_bringBackFirst, w ∈ lw_tbl := zi_cons zw_892 (zi_app (zi_cons zw_282 (zi_cons zw_281 zi_nil)) (zi_app inX6 zi_nil))
set_option maxHeartbeats 4000000 in
set_option maxRecDepth 100000 in
theorem k203_X6_bringBackFirst (l : Launch) (D : va_G) (zt : Nat × Nat × Nat × (Nat → Nat) × (Nat → Nat)) (q : Nat → Nat) (d : Nat → ClassId) (I : Nat → Int32) (A : Nat → Nat → Int32) (z1 : Int32) (hIv : IvX I A) : GM l D zt (tyX d) yX6_bringBackFirst wz_k203_X6_bringBackFirst ({ frames := 0, cells := 0, slots := 0, locals := 0 } : Room) [.ref (q 13), .int z1] (wX q d I A) (fun v _ w' => ∃ (I' : Nat → Int32) (A' : Nat → Nat → Int32), Md [17, 18] I I' ∧ Md [] A A' ∧ IvX I' A' ∧ FE (fX6_bringBackFirst I A z1) (0, I', A') ∧ v = none ∧ w' = wX q d I' A') 0 0 := by
  refine GM.of (cc := cX6_bringBackFirst) (maxL := 2) (ret := none) (own := RX6) (lv := [(0, .ref (q 13)), (1, .int z1)]) (by decide) rfl rfl (Nat.le_of_ble_eq_true rfl) rfl (fun κ sz hk hR hN => ?_)
  have hin6 : ∀ w ∈ u_ws RX6 TX6 3, w ∈ wz_k203_X6_bringBackFirst := fun w h => (List.mem_cons_of_mem _ (List.mem_append_right _ (List.mem_append_left _ h)))
  have hF : FE (fX6_bringBackFirst I A z1) (fX6_bringBackFirst I A z1) := FE.rf
  refine g_iload_n hk dX6_bringBackFirst_0 rfl ?_
  refine g_iconst (v := 1) hk dX6_bringBackFirst_1 (by decide) ?_
  have b2233l := Int32.le_toInt z1
  have b2233h := Int32.toInt_lt z1
  refine g_icmp_lt (tgt := 41) (a := z1.toInt) (b := 1) hk dX6_bringBackFirst_2 (by decide) rfl rfl (fun c2234 => ?_) (fun c2234 => ?_)
  · skip
    replace hF := FE.pos hF c2234
    exact g_vret hk hR ⟨I, A, (show Md [17, 18] I I from Md.rf), (show Md [] A A from Md.rf), hIv, hF, rfl, rfl⟩ dX6_bringBackFirst_41
  · skip
    replace hF := FE.neg hF c2234
    refine g_iload_n hk dX6_bringBackFirst_5 rfl ?_
    refine g_sipush (v := 160) hk dX6_bringBackFirst_6 (by decide) ?_
    refine g_aload_n hk dX6_bringBackFirst_9 rfl ?_
    refine gX_i18 (v := (I 18)) hk hin6 (List.mem_cons_of_mem _ (List.mem_append_left _ (List.mem_of_getElem? (i := 0) rfl))) dX6_bringBackFirst_10 rfl ?_
    have f2235 := IvX_f18 hIv
    refine g_isub hk dX6_bringBackFirst_13 ?_
    refine g_topi (fun y2236 ey2236 => ?_)
    replace hF := FE.lt hF ey2236
    have hy2236 : y2236.toInt = 160 - (I 18).toInt := i32_sub ey2236 rfl rfl (by omega) (by omega)
    refine g_icmp_gt (tgt := 41) (a := z1.toInt) (b := y2236.toInt) hk dX6_bringBackFirst_14 (by decide) rfl rfl (fun c2237 => ?_) (fun c2237 => ?_)
    · skip
      replace hF := FE.pos hF c2237
      exact g_vret hk hR ⟨I, A, (show Md [17, 18] I I from Md.rf), (show Md [] A A from Md.rf), hIv, hF, rfl, rfl⟩ dX6_bringBackFirst_41
    · skip
      replace hF := FE.neg hF c2237
      refine g_aload_n hk dX6_bringBackFirst_17 rfl ?_
      refine g_aload_n hk dX6_bringBackFirst_18 rfl ?_
      refine gX_i17 (v := (I 17)) hk hin6 (List.mem_cons_of_mem _ (List.mem_append_left _ (List.mem_of_getElem? (i := 1) rfl))) dX6_bringBackFirst_19 rfl ?_
      refine g_iload_n hk dX6_bringBackFirst_22 rfl ?_
      have b2238l := Int32.le_toInt (I 17)
      have b2238h := Int32.toInt_lt (I 17)
      refine g_isub hk dX6_bringBackFirst_23 ?_
      refine g_topi (fun y2239 ey2239 => ?_)
      replace hF := FE.lt hF ey2239
      have hy2239 := i32_sub0 ey2239
      refine g_sipush (v := 255) hk dX6_bringBackFirst_24 (by decide) ?_
      have b2240l := Int32.le_toInt y2239
      have b2240h := Int32.toInt_lt y2239
      refine g_iand hk dX6_bringBackFirst_27 ?_
      refine g_topi (fun y2241 ey2241 => ?_)
      replace hF := FE.lt hF ey2241
      have hy2241 : 0 ≤ y2241.toInt ∧ y2241.toInt ≤ 255 := i32_mask 8 ey2241 (by decide) (by decide)
      refine pX_i17 hk hin6 (List.mem_cons_of_mem _ (List.mem_append_left _ (List.mem_of_getElem? (i := 1) rfl))) dX6_bringBackFirst_28 ?_
      refine g_aload_n hk dX6_bringBackFirst_31 rfl ?_
      refine g_dup hk dX6_bringBackFirst_32 rfl ?_
      refine gX_i18 (v := (I 18)) hk hin6 (List.mem_cons_of_mem _ (List.mem_append_left _ (List.mem_of_getElem? (i := 0) rfl))) dX6_bringBackFirst_33 rfl ?_
      refine g_iload_n hk dX6_bringBackFirst_36 rfl ?_
      refine g_iadd hk dX6_bringBackFirst_37 ?_
      refine g_topi (fun y2242 ey2242 => ?_)
      replace hF := FE.lt hF ey2242
      have hy2242 : y2242.toInt = (I 18).toInt + z1.toInt := i32_add ey2242 rfl rfl (by omega) (by omega)
      refine pX_i18 hk hin6 (List.mem_cons_of_mem _ (List.mem_append_left _ (List.mem_of_getElem? (i := 0) rfl))) dX6_bringBackFirst_38 ?_
      exact g_vret hk hR ⟨(upd (upd I 17 y2241) 18 y2242), A, (show Md [17, 18] I (upd (upd I 17 y2241) 18 y2242) from (Md.up (Md.up Md.rf rfl) rfl)), (show Md [] A A from Md.rf), ⟨(IvX_f0 (I := I) (A := A) hIv), (show 0 ≤ y2242.toInt ∧ y2242.toInt ≤ 160 from ⟨by omega, by omega⟩), (IvX_f30 (I := I) (A := A) hIv), (IvX_f31 (I := I) (A := A) hIv), (IvX_a4 (I := I) (A := A) hIv), (IvX_a9 (I := I) (A := A) hIv), trivial⟩, hF, rfl, rfl⟩ dX6_bringBackFirst_41
noncomputable def fX3_valueIn_3 (I : Nat → Int32) (A : Nat → Nat → Int32) (z1 : Int32) : Int32 := if z1.toInt < 0 then 0 else if 40 ≤ z1.toInt then 0 else (A 13 z1.toNatClampNeg)
set_option maxHeartbeats 4000000 in
set_option maxRecDepth 100000 in
theorem k205_X3_valueIn (l : Launch) (D : va_G) (zt : Nat × Nat × Nat × (Nat → Nat) × (Nat → Nat)) (q : Nat → Nat) (d : Nat → ClassId) (I : Nat → Int32) (A : Nat → Nat → Int32) (z1 : Int32) (hIv : IvX I A) : GM l D zt (tyX d) yX3_valueIn wz_k199_X3_valueIn ({ frames := 0, cells := 0, slots := 0, locals := 0 } : Room) [.ref (q 23), .int z1] (wX q d I A) (fun v _ w' => ∃ y0 : Int32, FE (fX3_valueIn_3 I A z1) y0 ∧ v = some (.int y0) ∧ w' = wX q d I A) 0 0 := by
  refine GM.of (cc := cX3_valueIn) (maxL := 2) (ret := (some .int)) (own := RX3) (lv := [(0, .ref (q 23)), (1, .int z1)]) (by decide) rfl rfl (Nat.le_of_ble_eq_true rfl) rfl (fun κ sz hk hR hN => ?_)
  have hF : FE (fX3_valueIn_3 I A z1) (fX3_valueIn_3 I A z1) := FE.rf
  refine g_iload_n hk dX3_valueIn_0 rfl ?_
  have b2245l := Int32.le_toInt z1
  have b2245h := Int32.toInt_lt z1
  refine g_if_lt (tgt := 16) (a := z1.toInt) hk dX3_valueIn_1 (by decide) rfl (fun c2246 => ?_) (fun c2246 => ?_)
  · skip
    replace hF := FE.pos hF c2246
    refine g_iconst (v := 0) hk dX3_valueIn_16 (by decide) ?_
    exact g_iret hk hR rfl ⟨0, hF, rfl, rfl⟩ dX3_valueIn_17
  · skip
    replace hF := FE.neg hF c2246
    refine g_iload_n hk dX3_valueIn_4 rfl ?_
    refine g_aload_n hk dX3_valueIn_5 rfl ?_
    refine nX_13 hk dX3_valueIn_6 ?_
    refine g_icmp_ge (tgt := 16) (a := z1.toInt) (b := 40) hk dX3_valueIn_7 (by decide) rfl rfl (fun c2247 => ?_) (fun c2247 => ?_)
    · skip
      replace hF := FE.pos hF c2247
      refine g_iconst (v := 0) hk dX3_valueIn_16 (by decide) ?_
      exact g_iret hk hR rfl ⟨0, hF, rfl, rfl⟩ dX3_valueIn_17
    · skip
      replace hF := FE.neg hF c2247
      refine g_aload_n hk dX3_valueIn_10 rfl ?_
      refine g_iload_n hk dX3_valueIn_11 rfl ?_
      refine lX_13 (v := (A 13 z1.toNatClampNeg)) hk (vp_in_iff.mpr ⟨by omega, by omega⟩) rfl dX3_valueIn_12 ?_
      refine g_goto (tgt := 17) hk dX3_valueIn_13 (by decide) ?_
      have b2248l := Int32.le_toInt (A 13 z1.toNatClampNeg)
      have b2248h := Int32.toInt_lt (A 13 z1.toNatClampNeg)
      exact g_iret hk hR rfl ⟨(A 13 z1.toNatClampNeg), hF, rfl, rfl⟩ dX3_valueIn_17
noncomputable def fX3_secondOfStep (I : Nat → Int32) (A : Nat → Nat → Int32) : Int32 := f_lt (fX3_valueIn_3 I A (I 20)) fun y2249 => y2249
def wo_k204_X3_secondOfStep : List Cond := [Cond.fieldLink RX3 16 "WarpDesk$Past" "seconds" "[I", Cond.fieldLink RX3 23 "WarpDesk$Past" "next" "I", Cond.methodLink RX3 32 yX3_valueIn, Cond.static yX3_valueIn, Cond.initialized RX3]
def wz_k204_X3_secondOfStep : List Cond := .code yX3_secondOfStep cX3_secondOfStep 1 (some .int) :: (wo_k204_X3_secondOfStep ++ (wsX30 ++ (wz_k199_X3_valueIn ++ ([] : List Cond))))
theorem zg_k204_X3_secondOfStep : ∀ w ∈ wz_k204_X3_secondOfStep, goodWord w = true := zg_cons rfl (zg_app (by decide +kernel) (zg_app zgU_wsX30 (zg_app zg_k199_X3_valueIn zg_nil)))
theorem zi_k204_X3_secondOfStep : ∀ w ∈ wz_k204_X3_secondOfStep, w ∈ lw_tbl := zi_cons zw_896 (zi_app (zi_cons zw_304 (zi_cons zw_305 (zi_cons zw_878 (zi_cons zw_879 (zi_cons zw_110 zi_nil))))) (zi_app inX3 (zi_app zi_k199_X3_valueIn zi_nil)))
set_option maxHeartbeats 4000000 in
set_option maxRecDepth 100000 in
theorem k204_X3_secondOfStep (l : Launch) (D : va_G) (zt : Nat × Nat × Nat × (Nat → Nat) × (Nat → Nat)) (q : Nat → Nat) (d : Nat → ClassId) (I : Nat → Int32) (A : Nat → Nat → Int32) (hIv : IvX I A) : GM l D zt (tyX d) yX3_secondOfStep wz_k204_X3_secondOfStep ({ frames := 1, cells := 0, slots := 0, locals := 21 } : Room) [.ref (q 20)] (wX q d I A) (fun v _ w' => ∃ y0 : Int32, FE (fX3_secondOfStep I A) y0 ∧ v = some (.int y0) ∧ w' = wX q d I A) 0 0 := by
  refine GM.of (cc := cX3_secondOfStep) (maxL := 1) (ret := (some .int)) (own := RX3) (lv := [(0, .ref (q 20))]) (by decide) rfl rfl (Nat.le_of_ble_eq_true rfl) rfl (fun κ sz hk hR hN => ?_)
  have hin3 : ∀ w ∈ u_ws RX3 TX3 5, w ∈ wz_k204_X3_secondOfStep := fun w h => (List.mem_cons_of_mem _ (List.mem_append_right _ (List.mem_append_left _ h)))
  have hF : FE (fX3_secondOfStep I A) (fX3_secondOfStep I A) := FE.rf
  refine g_aload_n hk dX3_secondOfStep_0 rfl ?_
  refine gX_r20_2 hk hin3 (List.mem_cons_of_mem _ (List.mem_append_left _ (List.mem_of_getElem? (i := 0) rfl))) dX3_secondOfStep_1 ?_
  refine g_aload_n hk dX3_secondOfStep_4 rfl ?_
  refine gX_i20 (v := (I 20)) hk hin3 (List.mem_cons_of_mem _ (List.mem_append_left _ (List.mem_of_getElem? (i := 1) rfl))) dX3_secondOfStep_5 rfl ?_
  refine g_callS (n := 2) hk (k205_X3_valueIn l D zt q d I A (I 20) hIv) (SP.same _) (fun _ h => h) (gi_S (List.mem_cons_of_mem _ (List.mem_append_left _ (List.mem_of_getElem? (i := 2) rfl))) (List.mem_cons_of_mem _ (List.mem_append_left _ (List.mem_of_getElem? (i := 3) rfl))) (List.mem_cons_of_mem _ (List.mem_append_left _ (List.mem_of_getElem? (i := 4) rfl))) (gi_sub (fun w h => (List.mem_cons_of_mem _ (List.mem_append_right _ (List.mem_append_right _ (List.mem_append_left _ h))))) zg_k199_X3_valueIn)) rfl rfl rfl (by decide +kernel) ⟨Nat.le_of_ble_eq_true rfl, Nat.le_of_ble_eq_true rfl⟩ rfl rfl (Nat.le_of_ble_eq_true rfl) ⟨Nat.le_of_ble_eq_true rfl, Nat.le_of_ble_eq_true rfl⟩ dX3_secondOfStep_8 (fun v ty' w' hp hk' => ?_)
  obtain ⟨y2249, hC, rfl, rfl⟩ := hp
  replace hF := FE.lt hF (fe_s hC)
  show GW κ 1 0 0 (wX q d I A) 11 [(0, .ref (q 20))] [.int y2249]
  have b2250l := Int32.le_toInt y2249
  have b2250h := Int32.toInt_lt y2249
  exact g_iret hk hR rfl ⟨y2249, hF, rfl, rfl⟩ dX3_secondOfStep_11
noncomputable def fX11_undo (I : Nat → Int32) (A : Nat → Nat → Int32) : Int32 × (Nat → Int32) × (Nat → Nat → Int32) := f_bdX (fX3_stepBack I A) fun y2203 I2206 A2206 => if y2203.toInt ≠ 0 then f_lt (fX3_firstOfStep I2206 A2206) fun y2214 => f_lt (fX3_kindOfStep I2206 A2206) fun y2221 => if y2221.toInt = 0 then f_bdX (fX6_cutLast I2206 A2206) fun _ I2227 A2227 => (1, I2227, A2227) else if y2221.toInt = 1 then f_bdX (fX6_putAt I2206 A2206 y2214 (-1000)) fun _ I2231 A2231 => (1, I2231, A2231) else if y2221.toInt = 2 then f_bdX (fX6_bringBackFirst I2206 A2206 y2214) fun _ I2244 A2244 => (1, I2244, A2244) else f_lt (fX3_secondOfStep I2206 A2206) fun y2251 => f_bdX (fX7_put_2 I2206 A2206 y2214 y2251) fun _ I2253 A2253 => (1, I2253, A2253) else (0, I2206, A2206)
def wo_k196_X11_undo : List Cond := [Cond.fieldLink RX11 49 "WarpDesk" "past" "LWarpDesk$Past;", Cond.methodLink RX11 164 yX3_stepBack, Cond.instanceMethod yX3_stepBack, Cond.selects RX3 yX3_stepBack yX3_stepBack, Cond.initialized RX3, Cond.methodLink RX11 168 yX3_firstOfStep, Cond.instanceMethod yX3_firstOfStep, Cond.selects RX3 yX3_firstOfStep yX3_firstOfStep, Cond.methodLink RX11 171 yX3_kindOfStep, Cond.instanceMethod yX3_kindOfStep, Cond.selects RX3 yX3_kindOfStep yX3_kindOfStep, Cond.fieldLink RX11 28 "WarpDesk" "series" "LWarpDesk$Series;", Cond.methodLink RX11 174 yX6_cutLast, Cond.instanceMethod yX6_cutLast, Cond.selects RX6 yX6_cutLast yX6_cutLast, Cond.initialized RX6, Cond.methodLink RX11 147 yX6_putAt, Cond.instanceMethod yX6_putAt, Cond.selects RX6 yX6_putAt yX6_putAt, Cond.methodLink RX11 177 yX6_bringBackFirst, Cond.instanceMethod yX6_bringBackFirst, Cond.selects RX6 yX6_bringBackFirst yX6_bringBackFirst, Cond.fieldLink RX11 42 "WarpDesk" "settings" "LWarpDesk$Settings;", Cond.methodLink RX11 180 yX3_secondOfStep, Cond.instanceMethod yX3_secondOfStep, Cond.selects RX3 yX3_secondOfStep yX3_secondOfStep, Cond.methodLink RX11 161 yX7_put, Cond.instanceMethod yX7_put, Cond.selects RX7 yX7_put yX7_put, Cond.initialized RX7]
def wz_k196_X11_undo : List Cond := .code yX11_undo cX11_undo 2 (some .boolean) :: (wo_k196_X11_undo ++ (wsX110 ++ (wz_k197_X3_stepBack ++ (wz_k198_X3_firstOfStep ++ (wz_k200_X3_kindOfStep ++ (wz_k202_X6_cutLast ++ (wz_k190_X6_putAt ++ (wz_k203_X6_bringBackFirst ++ (wz_k204_X3_secondOfStep ++ (wz_k121_X7_put ++ ([] : List Cond)))))))))))
theorem zg_k196_X11_undo : ∀ w ∈ wz_k196_X11_undo, goodWord w = true := zg_cons rfl (zg_app (by decide +kernel) (zg_app zgU_wsX110 (zg_app zg_k197_X3_stepBack (zg_app zg_k198_X3_firstOfStep (zg_app zg_k200_X3_kindOfStep (zg_app zg_k202_X6_cutLast (zg_app zg_k190_X6_putAt (zg_app zg_k203_X6_bringBackFirst (zg_app zg_k204_X3_secondOfStep (zg_app zg_k121_X7_put zg_nil))))))))))
theorem zi_k196_X11_undo : ∀ w ∈ wz_k196_X11_undo, w ∈ lw_tbl := zi_cons zw_869 (zi_app (zi_cons zw_492 (zi_cons zw_870 (zi_cons zw_871 (zi_cons zw_872 (zi_cons zw_110 (zi_cons zw_874 (zi_cons zw_875 (zi_cons zw_876 (zi_cons zw_881 (zi_cons zw_882 (zi_cons zw_883 (zi_cons zw_489 (zi_cons zw_885 (zi_cons zw_886 (zi_cons zw_887 (zi_cons zw_109 (zi_cons zw_847 (zi_cons zw_848 (zi_cons zw_849 (zi_cons zw_889 (zi_cons zw_890 (zi_cons zw_891 (zi_cons zw_491 (zi_cons zw_893 (zi_cons zw_894 (zi_cons zw_895 (zi_cons zw_865 (zi_cons zw_551 (zi_cons zw_552 (zi_cons zw_107 zi_nil)))))))))))))))))))))))))))))) (zi_app inX11 (zi_app zi_k197_X3_stepBack (zi_app zi_k198_X3_firstOfStep (zi_app zi_k200_X3_kindOfStep (zi_app zi_k202_X6_cutLast (zi_app zi_k190_X6_putAt (zi_app zi_k203_X6_bringBackFirst (zi_app zi_k204_X3_secondOfStep (zi_app zi_k121_X7_put zi_nil))))))))))
set_option maxHeartbeats 4000000 in
set_option maxRecDepth 100000 in
theorem k196_X11_undo (l : Launch) (D : va_G) (zt : Nat × Nat × Nat × (Nat → Nat) × (Nat → Nat)) (q : Nat → Nat) (d : Nat → ClassId) (I : Nat → Int32) (A : Nat → Nat → Int32) (hIv : IvX I A) : GM l D zt (tyX d) yX11_undo wz_k196_X11_undo ({ frames := 2, cells := 0, slots := 0, locals := 41 } : Room) [.ref (q 0)] (wX q d I A) (fun v _ w' => ∃ (I' : Nat → Int32) (A' : Nat → Nat → Int32), Md [17, 18, 20, 21] I I' ∧ Md [7, 10] A A' ∧ IvX I' A' ∧ ∃ y0 : Int32, (0 ≤ y0.toInt) ∧ (y0.toInt ≤ 1) ∧ FE (fX11_undo I A) (y0, I', A') ∧ v = some (.int y0) ∧ w' = wX q d I' A') 0 0 := by
  refine GM.of (cc := cX11_undo) (maxL := 2) (ret := (some .boolean)) (own := RX11) (lv := [(0, .ref (q 0))]) (by decide) rfl rfl (Nat.le_of_ble_eq_true rfl) rfl (fun κ sz hk hR hN => ?_)
  have hin11 : ∀ w ∈ u_ws RX11 TX11 10, w ∈ wz_k196_X11_undo := fun w h => (List.mem_cons_of_mem _ (List.mem_append_right _ (List.mem_append_left _ h)))
  have hF : FE (fX11_undo I A) (fX11_undo I A) := FE.rf
  refine g_aload_n hk dX11_undo_0 rfl ?_
  refine gX_r0_5 hk hin11 (List.mem_cons_of_mem _ (List.mem_append_left _ (List.mem_of_getElem? (i := 0) rfl))) dX11_undo_1 ?_
  refine g_callV (n := 0) hk (k197_X3_stepBack l D zt q d I A  hIv) (SP.same _) (fun _ h => h) (gi_V (List.mem_cons_of_mem _ (List.mem_append_left _ (List.mem_of_getElem? (i := 1) rfl))) (List.mem_cons_of_mem _ (List.mem_append_left _ (List.mem_of_getElem? (i := 2) rfl))) (List.mem_cons_of_mem _ (List.mem_append_left _ (List.mem_of_getElem? (i := 3) rfl))) (List.mem_cons_of_mem _ (List.mem_append_left _ (List.mem_of_getElem? (i := 4) rfl))) (gi_sub (fun w h => (List.mem_cons_of_mem _ (List.mem_append_right _ (List.mem_append_right _ (List.mem_append_left _ h))))) zg_k197_X3_stepBack)) rfl rfl rfl (by decide +kernel) ⟨Nat.le_of_ble_eq_true rfl, Nat.le_of_ble_eq_true rfl⟩ 20 rfl rfl rfl rfl (Nat.le_of_ble_eq_true rfl) ⟨Nat.le_of_ble_eq_true rfl, Nat.le_of_ble_eq_true rfl⟩ dX11_undo_4 (fun v ty' w' hp hk' => ?_)
  obtain ⟨I2206, A2206, hI2206, hA2206, hV2206, y2203, c2204, c2205, hC, rfl, rfl⟩ := hp
  replace hF := FE.bdX hF hC
  show GW κ 2 0 0 (wX q d I2206 A2206) 7 [(0, .ref (q 0))] [.int y2203]
  refine g_if_ne (tgt := 12) (a := y2203.toInt) hk dX11_undo_7 (by decide) rfl (fun c2207 => ?_) (fun c2207 => ?_)
  · skip
    replace hF := FE.pos hF c2207
    refine g_aload_n hk dX11_undo_12 rfl ?_
    refine gX_r0_5 hk hin11 (List.mem_cons_of_mem _ (List.mem_append_left _ (List.mem_of_getElem? (i := 0) rfl))) dX11_undo_13 ?_
    refine g_callV (n := 0) hk (k198_X3_firstOfStep l D zt q d I2206 A2206  hV2206) (SP.same _) (fun _ h => h) (gi_V (List.mem_cons_of_mem _ (List.mem_append_left _ (List.mem_of_getElem? (i := 5) rfl))) (List.mem_cons_of_mem _ (List.mem_append_left _ (List.mem_of_getElem? (i := 6) rfl))) (List.mem_cons_of_mem _ (List.mem_append_left _ (List.mem_of_getElem? (i := 7) rfl))) (List.mem_cons_of_mem _ (List.mem_append_left _ (List.mem_of_getElem? (i := 4) rfl))) (gi_sub (fun w h => (List.mem_cons_of_mem _ (List.mem_append_right _ (List.mem_append_right _ (List.mem_append_right _ (List.mem_append_left _ h)))))) zg_k198_X3_firstOfStep)) rfl rfl rfl (by decide +kernel) ⟨Nat.le_of_ble_eq_true rfl, Nat.le_of_ble_eq_true rfl⟩ 20 rfl rfl rfl rfl (Nat.le_of_ble_eq_true rfl) ⟨Nat.le_of_ble_eq_true rfl, Nat.le_of_ble_eq_true rfl⟩ dX11_undo_16 (fun v ty' w' hp hk' => ?_)
    obtain ⟨y2214, hC, rfl, rfl⟩ := hp
    replace hF := FE.lt hF (fe_s hC)
    show GW κ 2 0 0 (wX q d I2206 A2206) 19 [(0, .ref (q 0))] [.int y2214]
    refine g_istore_n (lv' := [(1, .int y2214), (0, .ref (q 0))]) hk dX11_undo_19 (by decide) rfl ?_
    refine g_aload_n hk dX11_undo_20 rfl ?_
    refine gX_r0_5 hk hin11 (List.mem_cons_of_mem _ (List.mem_append_left _ (List.mem_of_getElem? (i := 0) rfl))) dX11_undo_21 ?_
    refine g_callV (n := 0) hk (k200_X3_kindOfStep l D zt q d I2206 A2206  hV2206) (SP.same _) (fun _ h => h) (gi_V (List.mem_cons_of_mem _ (List.mem_append_left _ (List.mem_of_getElem? (i := 8) rfl))) (List.mem_cons_of_mem _ (List.mem_append_left _ (List.mem_of_getElem? (i := 9) rfl))) (List.mem_cons_of_mem _ (List.mem_append_left _ (List.mem_of_getElem? (i := 10) rfl))) (List.mem_cons_of_mem _ (List.mem_append_left _ (List.mem_of_getElem? (i := 4) rfl))) (gi_sub (fun w h => (List.mem_cons_of_mem _ (List.mem_append_right _ (List.mem_append_right _ (List.mem_append_right _ (List.mem_append_right _ (List.mem_append_left _ h))))))) zg_k200_X3_kindOfStep)) rfl rfl rfl (by decide +kernel) ⟨Nat.le_of_ble_eq_true rfl, Nat.le_of_ble_eq_true rfl⟩ 20 rfl rfl rfl rfl (Nat.le_of_ble_eq_true rfl) ⟨Nat.le_of_ble_eq_true rfl, Nat.le_of_ble_eq_true rfl⟩ dX11_undo_24 (fun v ty' w' hp hk' => ?_)
    obtain ⟨y2221, hC, rfl, rfl⟩ := hp
    replace hF := FE.lt hF (fe_s hC)
    show GW κ 2 0 0 (wX q d I2206 A2206) 27 [(1, .int y2214), (0, .ref (q 0))] [.int y2221]
    by_cases c2222 : y2221.toInt = 0
    · refine g_tabIn (tgt := 52) (a := 0) hk dX11_undo_27 c2222 (by decide) (by decide) rfl (by decide) ?_
      replace hF := FE.pos hF c2222
      refine g_aload_n hk dX11_undo_52 rfl ?_
      refine gX_r0_2 hk hin11 (List.mem_cons_of_mem _ (List.mem_append_left _ (List.mem_of_getElem? (i := 11) rfl))) dX11_undo_53 ?_
      refine g_callV (n := 0) hk (k202_X6_cutLast l D zt q d I2206 A2206  hV2206) (SP.same _) (fun _ h => h) (gi_V (List.mem_cons_of_mem _ (List.mem_append_left _ (List.mem_of_getElem? (i := 12) rfl))) (List.mem_cons_of_mem _ (List.mem_append_left _ (List.mem_of_getElem? (i := 13) rfl))) (List.mem_cons_of_mem _ (List.mem_append_left _ (List.mem_of_getElem? (i := 14) rfl))) (List.mem_cons_of_mem _ (List.mem_append_left _ (List.mem_of_getElem? (i := 15) rfl))) (gi_sub (fun w h => (List.mem_cons_of_mem _ (List.mem_append_right _ (List.mem_append_right _ (List.mem_append_right _ (List.mem_append_right _ (List.mem_append_right _ (List.mem_append_left _ h)))))))) zg_k202_X6_cutLast)) rfl rfl rfl (by decide +kernel) ⟨Nat.le_of_ble_eq_true rfl, Nat.le_of_ble_eq_true rfl⟩ 13 rfl rfl rfl rfl (Nat.le_of_ble_eq_true rfl) ⟨Nat.le_of_ble_eq_true rfl, Nat.le_of_ble_eq_true rfl⟩ dX11_undo_56 (fun v ty' w' hp hk' => ?_)
      obtain ⟨I2227, A2227, hI2227, hA2227, hV2227, hC, rfl, rfl⟩ := hp
      replace hF := FE.bdX hF hC
      show GW κ 2 0 0 (wX q d I2227 A2227) 59 [(1, .int y2214), (0, .ref (q 0))] []
      refine g_goto (tgt := 102) hk dX11_undo_59 (by decide) ?_
      refine g_iconst (v := 1) hk dX11_undo_102 (by decide) ?_
      exact g_iret hk hR rfl ⟨I2227, A2227, (show Md [17, 18, 20, 21] I I2227 from (Md.tr (Md.tr Md.rf hI2206 rfl) hI2227 rfl)), (show Md [7, 10] A A2227 from (Md.tr (Md.tr Md.rf hA2206 rfl) hA2227 rfl)), hV2227, 1, (by decide), (by decide), hF, rfl, rfl⟩ dX11_undo_103
    replace hF := FE.neg hF c2222
    by_cases c2228 : y2221.toInt = 1
    · refine g_tabIn (tgt := 62) (a := 1) hk dX11_undo_27 c2228 (by decide) (by decide) rfl (by decide) ?_
      replace hF := FE.pos hF c2228
      refine g_aload_n hk dX11_undo_62 rfl ?_
      refine gX_r0_2 hk hin11 (List.mem_cons_of_mem _ (List.mem_append_left _ (List.mem_of_getElem? (i := 11) rfl))) dX11_undo_63 ?_
      refine g_iload_n hk dX11_undo_66 rfl ?_
      refine g_sipush (v := (-1000)) hk dX11_undo_67 (by decide) ?_
      have k2229 : ((-1000) : Int32).toInt = (-1000) := rfl
      refine g_callV (n := 2) hk (k190_X6_putAt l D zt q d I2206 A2206 y2214 (-1000) hV2206) (SP.same _) (fun _ h => h) (gi_V (List.mem_cons_of_mem _ (List.mem_append_left _ (List.mem_of_getElem? (i := 16) rfl))) (List.mem_cons_of_mem _ (List.mem_append_left _ (List.mem_of_getElem? (i := 17) rfl))) (List.mem_cons_of_mem _ (List.mem_append_left _ (List.mem_of_getElem? (i := 18) rfl))) (List.mem_cons_of_mem _ (List.mem_append_left _ (List.mem_of_getElem? (i := 15) rfl))) (gi_sub (fun w h => (List.mem_cons_of_mem _ (List.mem_append_right _ (List.mem_append_right _ (List.mem_append_right _ (List.mem_append_right _ (List.mem_append_right _ (List.mem_append_right _ (List.mem_append_left _ h))))))))) zg_k190_X6_putAt)) rfl rfl rfl (by decide +kernel) ⟨Nat.le_of_ble_eq_true rfl, Nat.le_of_ble_eq_true rfl⟩ 13 rfl rfl rfl rfl (Nat.le_of_ble_eq_true rfl) ⟨Nat.le_of_ble_eq_true rfl, Nat.le_of_ble_eq_true rfl⟩ dX11_undo_70 (fun v ty' w' hp hk' => ?_)
      obtain ⟨I2231, A2231, hI2231, hA2231, hV2231, hC, rfl, rfl⟩ := hp
      replace hF := FE.bdX hF hC
      show GW κ 2 0 0 (wX q d I2231 A2231) 73 [(1, .int y2214), (0, .ref (q 0))] []
      refine g_goto (tgt := 102) hk dX11_undo_73 (by decide) ?_
      refine g_iconst (v := 1) hk dX11_undo_102 (by decide) ?_
      exact g_iret hk hR rfl ⟨I2231, A2231, (show Md [17, 18, 20, 21] I I2231 from (Md.tr (Md.tr Md.rf hI2206 rfl) hI2231 rfl)), (show Md [7, 10] A A2231 from (Md.tr (Md.tr Md.rf hA2206 rfl) hA2231 rfl)), hV2231, 1, (by decide), (by decide), hF, rfl, rfl⟩ dX11_undo_103
    replace hF := FE.neg hF c2228
    by_cases c2232 : y2221.toInt = 2
    · refine g_tabIn (tgt := 76) (a := 2) hk dX11_undo_27 c2232 (by decide) (by decide) rfl (by decide) ?_
      replace hF := FE.pos hF c2232
      refine g_aload_n hk dX11_undo_76 rfl ?_
      refine gX_r0_2 hk hin11 (List.mem_cons_of_mem _ (List.mem_append_left _ (List.mem_of_getElem? (i := 11) rfl))) dX11_undo_77 ?_
      refine g_iload_n hk dX11_undo_80 rfl ?_
      refine g_callV (n := 1) hk (k203_X6_bringBackFirst l D zt q d I2206 A2206 y2214 hV2206) (SP.same _) (fun _ h => h) (gi_V (List.mem_cons_of_mem _ (List.mem_append_left _ (List.mem_of_getElem? (i := 19) rfl))) (List.mem_cons_of_mem _ (List.mem_append_left _ (List.mem_of_getElem? (i := 20) rfl))) (List.mem_cons_of_mem _ (List.mem_append_left _ (List.mem_of_getElem? (i := 21) rfl))) (List.mem_cons_of_mem _ (List.mem_append_left _ (List.mem_of_getElem? (i := 15) rfl))) (gi_sub (fun w h => (List.mem_cons_of_mem _ (List.mem_append_right _ (List.mem_append_right _ (List.mem_append_right _ (List.mem_append_right _ (List.mem_append_right _ (List.mem_append_right _ (List.mem_append_right _ (List.mem_append_left _ h)))))))))) zg_k203_X6_bringBackFirst)) rfl rfl rfl (by decide +kernel) ⟨Nat.le_of_ble_eq_true rfl, Nat.le_of_ble_eq_true rfl⟩ 13 rfl rfl rfl rfl (Nat.le_of_ble_eq_true rfl) ⟨Nat.le_of_ble_eq_true rfl, Nat.le_of_ble_eq_true rfl⟩ dX11_undo_81 (fun v ty' w' hp hk' => ?_)
      obtain ⟨I2244, A2244, hI2244, hA2244, hV2244, hC, rfl, rfl⟩ := hp
      replace hF := FE.bdX hF hC
      show GW κ 2 0 0 (wX q d I2244 A2244) 84 [(1, .int y2214), (0, .ref (q 0))] []
      refine g_goto (tgt := 102) hk dX11_undo_84 (by decide) ?_
      refine g_iconst (v := 1) hk dX11_undo_102 (by decide) ?_
      exact g_iret hk hR rfl ⟨I2244, A2244, (show Md [17, 18, 20, 21] I I2244 from (Md.tr (Md.tr Md.rf hI2206 rfl) hI2244 rfl)), (show Md [7, 10] A A2244 from (Md.tr (Md.tr Md.rf hA2206 rfl) hA2244 rfl)), hV2244, 1, (by decide), (by decide), hF, rfl, rfl⟩ dX11_undo_103
    replace hF := FE.neg hF c2232
    refine g_tabOut (tgt := 87) (a := y2221.toInt) hk dX11_undo_27 rfl (by omega) (by decide) ?_
    refine g_aload_n hk dX11_undo_87 rfl ?_
    refine gX_r0_4 hk hin11 (List.mem_cons_of_mem _ (List.mem_append_left _ (List.mem_of_getElem? (i := 22) rfl))) dX11_undo_88 ?_
    refine g_iload_n hk dX11_undo_91 rfl ?_
    refine g_aload_n hk dX11_undo_92 rfl ?_
    refine gX_r0_5 hk hin11 (List.mem_cons_of_mem _ (List.mem_append_left _ (List.mem_of_getElem? (i := 0) rfl))) dX11_undo_93 ?_
    refine g_callV (n := 0) hk (k204_X3_secondOfStep l D zt q d I2206 A2206  hV2206) (SP.same _) (fun _ h => h) (gi_V (List.mem_cons_of_mem _ (List.mem_append_left _ (List.mem_of_getElem? (i := 23) rfl))) (List.mem_cons_of_mem _ (List.mem_append_left _ (List.mem_of_getElem? (i := 24) rfl))) (List.mem_cons_of_mem _ (List.mem_append_left _ (List.mem_of_getElem? (i := 25) rfl))) (List.mem_cons_of_mem _ (List.mem_append_left _ (List.mem_of_getElem? (i := 4) rfl))) (gi_sub (fun w h => (List.mem_cons_of_mem _ (List.mem_append_right _ (List.mem_append_right _ (List.mem_append_right _ (List.mem_append_right _ (List.mem_append_right _ (List.mem_append_right _ (List.mem_append_right _ (List.mem_append_right _ (List.mem_append_left _ h))))))))))) zg_k204_X3_secondOfStep)) rfl rfl rfl (by decide +kernel) ⟨Nat.le_of_ble_eq_true rfl, Nat.le_of_ble_eq_true rfl⟩ 20 rfl rfl rfl rfl (Nat.le_of_ble_eq_true rfl) ⟨Nat.le_of_ble_eq_true rfl, Nat.le_of_ble_eq_true rfl⟩ dX11_undo_96 (fun v ty' w' hp hk' => ?_)
    obtain ⟨y2251, hC, rfl, rfl⟩ := hp
    replace hF := FE.lt hF (fe_s hC)
    show GW κ 2 0 0 (wX q d I2206 A2206) 99 [(1, .int y2214), (0, .ref (q 0))] [.int y2251, .int y2214, .ref (q 18)]
    refine g_callV (n := 2) hk (k195_X7_put l D zt q d I2206 A2206 y2214 y2251 hV2206) (SP.same _) (fun _ h => h) (gi_V (List.mem_cons_of_mem _ (List.mem_append_left _ (List.mem_of_getElem? (i := 26) rfl))) (List.mem_cons_of_mem _ (List.mem_append_left _ (List.mem_of_getElem? (i := 27) rfl))) (List.mem_cons_of_mem _ (List.mem_append_left _ (List.mem_of_getElem? (i := 28) rfl))) (List.mem_cons_of_mem _ (List.mem_append_left _ (List.mem_of_getElem? (i := 29) rfl))) (gi_sub (fun w h => (List.mem_cons_of_mem _ (List.mem_append_right _ (List.mem_append_right _ (List.mem_append_right _ (List.mem_append_right _ (List.mem_append_right _ (List.mem_append_right _ (List.mem_append_right _ (List.mem_append_right _ (List.mem_append_right _ (List.mem_append_left _ h)))))))))))) zg_k121_X7_put)) rfl rfl rfl (by decide +kernel) ⟨Nat.le_of_ble_eq_true rfl, Nat.le_of_ble_eq_true rfl⟩ 18 rfl rfl rfl rfl (Nat.le_of_ble_eq_true rfl) ⟨Nat.le_of_ble_eq_true rfl, Nat.le_of_ble_eq_true rfl⟩ dX11_undo_99 (fun v ty' w' hp hk' => ?_)
    obtain ⟨I2253, A2253, hI2253, hA2253, hV2253, hC, rfl, rfl⟩ := hp
    replace hF := FE.bdX hF hC
    show GW κ 2 0 0 (wX q d I2253 A2253) 102 [(1, .int y2214), (0, .ref (q 0))] []
    refine g_iconst (v := 1) hk dX11_undo_102 (by decide) ?_
    exact g_iret hk hR rfl ⟨I2253, A2253, (show Md [17, 18, 20, 21] I I2253 from (Md.tr (Md.tr Md.rf hI2206 rfl) hI2253 rfl)), (show Md [7, 10] A A2253 from (Md.tr (Md.tr Md.rf hA2206 rfl) hA2253 rfl)), hV2253, 1, (by decide), (by decide), hF, rfl, rfl⟩ dX11_undo_103
  · skip
    replace hF := FE.neg hF c2207
    refine g_iconst (v := 0) hk dX11_undo_10 (by decide) ?_
    exact g_iret hk hR rfl ⟨I2206, A2206, (show Md [17, 18, 20, 21] I I2206 from (Md.tr Md.rf hI2206 rfl)), (show Md [7, 10] A A2206 from (Md.tr Md.rf hA2206 rfl)), hV2206, 0, (by decide), (by decide), hF, rfl, rfl⟩ dX11_undo_11
noncomputable def bX6_hasWindow_31 (z2 : Int32) (I : Nat → Int32) (A : Nat → Nat → Int32) (z1 : Int32) : (Int32 → (Int32)) → Int32 → (Int32) := fun kk2293 x2264 => if z2.toInt ≤ x2264.toInt then 1 else f_lt (z1 + x2264) fun y2296 => if fX6_hasReading I A y2296 = 0 then 0 else f_lt (x2264 + Int32.ofInt 1) fun y2299 => kk2293 y2299
noncomputable def fX6_hasWindow (I : Nat → Int32) (A : Nat → Nat → Int32) (z1 : Int32) (z2 : Int32) : Int32 := if z1.toInt < 0 then 0 else if (I 18).toInt ≤ z1.toInt then 0 else if z2.toInt < 1 then 0 else f_lt ((I 18) - z1) fun y2262 => if z2.toInt ≤ y2262.toInt then itr_i (0 : Int32) (bX6_hasWindow_31 z2 I A z1) FU 0 else 0
def wo_k207_X6_hasWindow : List Cond := [Cond.fieldLink RX6 19 "WarpDesk$Series" "size" "I", Cond.methodLink RX6 37 yX6_hasReading, Cond.instanceMethod yX6_hasReading, Cond.selects RX6 yX6_hasReading yX6_hasReading, Cond.initialized RX6]
def wz_k207_X6_hasWindow : List Cond := .code yX6_hasWindow cX6_hasWindow 4 (some .boolean) :: (wo_k207_X6_hasWindow ++ (wsX60 ++ (wz_k188_X6_hasReading ++ ([] : List Cond))))
theorem zg_k207_X6_hasWindow : ∀ w ∈ wz_k207_X6_hasWindow, goodWord w = true := zg_cons rfl (zg_app (by decide +kernel) (zg_app zgU_wsX60 (zg_app zg_k188_X6_hasReading zg_nil)))
theorem zi_k207_X6_hasWindow : ∀ w ∈ wz_k207_X6_hasWindow, w ∈ lw_tbl := zi_cons zw_904 (zi_app (zi_cons zw_282 (zi_cons zw_905 (zi_cons zw_840 (zi_cons zw_841 (zi_cons zw_109 zi_nil))))) (zi_app inX6 (zi_app zi_k188_X6_hasReading zi_nil)))
set_option maxHeartbeats 4000000 in
set_option maxRecDepth 100000 in
theorem k207_X6_hasWindow (l : Launch) (D : va_G) (zt : Nat × Nat × Nat × (Nat → Nat) × (Nat → Nat)) (q : Nat → Nat) (d : Nat → ClassId) (I : Nat → Int32) (A : Nat → Nat → Int32) (z1 : Int32) (z2 : Int32) (hIv : IvX I A) : GM l D zt (tyX d) yX6_hasWindow wz_k207_X6_hasWindow ({ frames := 2, cells := 0, slots := 0, locals := 42 } : Room) [.ref (q 13), .int z1, .int z2] (wX q d I A) (fun v _ w' => (FE (fX6_hasWindow I A z1 z2) (0) ∧ v = some (.int 0) ∧ w' = wX q d I A) ∨ ((¬ (z1.toInt < 0)) ∧ (¬ (z2.toInt < 1)) ∧ (0 ≤ z1.toInt) ∧ (z1.toInt ≤ 159) ∧ (1 ≤ z2.toInt) ∧ (z2.toInt ≤ 160) ∧ FE (fX6_hasWindow I A z1 z2) (1) ∧ v = some (.int 1) ∧ w' = wX q d I A)) 0 0 := by
  refine GM.of (cc := cX6_hasWindow) (maxL := 4) (ret := (some .boolean)) (own := RX6) (lv := [(0, .ref (q 13)), (1, .int z1), (2, .int z2)]) (by decide) rfl rfl (Nat.le_of_ble_eq_true rfl) rfl (fun κ sz hk hR hN => ?_)
  have hin6 : ∀ w ∈ u_ws RX6 TX6 3, w ∈ wz_k207_X6_hasWindow := fun w h => (List.mem_cons_of_mem _ (List.mem_append_right _ (List.mem_append_left _ h)))
  have hF : FE (fX6_hasWindow I A z1 z2) (fX6_hasWindow I A z1 z2) := FE.rf
  refine g_iload_n hk dX6_hasWindow_0 rfl ?_
  have b2256l := Int32.le_toInt z1
  have b2256h := Int32.toInt_lt z1
  refine g_if_lt (tgt := 27) (a := z1.toInt) hk dX6_hasWindow_1 (by decide) rfl (fun c2257 => ?_) (fun c2257 => ?_)
  · skip
    replace hF := FE.pos hF c2257
    refine g_iconst (v := 0) hk dX6_hasWindow_27 (by decide) ?_
    exact g_iret hk hR rfl (Or.inl ⟨hF, rfl, rfl⟩) dX6_hasWindow_28
  · skip
    replace hF := FE.neg hF c2257
    refine g_iload_n hk dX6_hasWindow_4 rfl ?_
    refine g_aload_n hk dX6_hasWindow_5 rfl ?_
    refine gX_i18 (v := (I 18)) hk hin6 (List.mem_cons_of_mem _ (List.mem_append_left _ (List.mem_of_getElem? (i := 0) rfl))) dX6_hasWindow_6 rfl ?_
    have f2258 := IvX_f18 hIv
    refine g_icmp_ge (tgt := 27) (a := z1.toInt) (b := (I 18).toInt) hk dX6_hasWindow_9 (by decide) rfl rfl (fun c2259 => ?_) (fun c2259 => ?_)
    · skip
      replace hF := FE.pos hF c2259
      refine g_iconst (v := 0) hk dX6_hasWindow_27 (by decide) ?_
      exact g_iret hk hR rfl (Or.inl ⟨hF, rfl, rfl⟩) dX6_hasWindow_28
    · skip
      replace hF := FE.neg hF c2259
      refine g_iload_n hk dX6_hasWindow_12 rfl ?_
      refine g_iconst (v := 1) hk dX6_hasWindow_13 (by decide) ?_
      have b2260l := Int32.le_toInt z2
      have b2260h := Int32.toInt_lt z2
      refine g_icmp_lt (tgt := 27) (a := z2.toInt) (b := 1) hk dX6_hasWindow_14 (by decide) rfl rfl (fun c2261 => ?_) (fun c2261 => ?_)
      · skip
        replace hF := FE.pos hF c2261
        refine g_iconst (v := 0) hk dX6_hasWindow_27 (by decide) ?_
        exact g_iret hk hR rfl (Or.inl ⟨hF, rfl, rfl⟩) dX6_hasWindow_28
      · skip
        replace hF := FE.neg hF c2261
        refine g_iload_n hk dX6_hasWindow_17 rfl ?_
        refine g_aload_n hk dX6_hasWindow_18 rfl ?_
        refine gX_i18 (v := (I 18)) hk hin6 (List.mem_cons_of_mem _ (List.mem_append_left _ (List.mem_of_getElem? (i := 0) rfl))) dX6_hasWindow_19 rfl ?_
        refine g_iload_n hk dX6_hasWindow_22 rfl ?_
        refine g_isub hk dX6_hasWindow_23 ?_
        refine g_topi (fun y2262 ey2262 => ?_)
        replace hF := FE.lt hF ey2262
        have hy2262 : y2262.toInt = (I 18).toInt - z1.toInt := i32_sub ey2262 rfl rfl (by omega) (by omega)
        refine g_icmp_le (tgt := 29) (a := z2.toInt) (b := y2262.toInt) hk dX6_hasWindow_24 (by decide) rfl rfl (fun c2263 => ?_) (fun c2263 => ?_)
        · skip
          replace hF := FE.pos hF c2263
          refine g_iconst (v := 0) hk dX6_hasWindow_29 (by decide) ?_
          refine g_istore_n (lv' := [(3, .int 0), (0, .ref (q 13)), (1, .int z1), (2, .int z2)]) hk dX6_hasWindow_30 (by decide) rfl ?_
          have lp2290 : ∀ (n2291 : Nat) (x2264 : Int32), (0 ≤ x2264.toInt) → (x2264.toInt ≤ 160) → (161 - x2264.toInt < (n2291 : Int)) → (0 < n2291) → (FE (fX6_hasWindow I A z1 z2) (itr_i (0 : Int32) (bX6_hasWindow_31 z2 I A z1) n2291 x2264)) → GW κ 4 0 0 (wX q d I A) 31 [(3, .int x2264), (0, .ref (q 13)), (1, .int z1), (2, .int z2)] [] := by
            intro n2291
            induction n2291 with
            | zero =>
              intro x2264 h2288 h2289 m2292 m2292z hF
              exact absurd m2292z (Nat.lt_irrefl 0)
            | succ n2291 ih2294 =>
              intro x2264 h2288 h2289 m2292 m2292z hF
              replace hF := FE.itr_i hF
              refine g_iload_n hk dX6_hasWindow_31 rfl ?_
              refine g_iload_n hk dX6_hasWindow_32 rfl ?_
              refine g_icmp_ge (tgt := 54) (a := x2264.toInt) (b := z2.toInt) hk dX6_hasWindow_33 (by decide) rfl rfl (fun c2295 => ?_) (fun c2295 => ?_)
              · skip
                replace hF := FE.pos hF c2295
                refine g_iconst (v := 1) hk dX6_hasWindow_54 (by decide) ?_
                exact g_iret hk hR rfl (Or.inr (⟨c2257, c2261, (by omega), (by omega), (by omega), (by omega), hF, rfl, rfl⟩)) dX6_hasWindow_55
              · skip
                replace hF := FE.neg hF c2295
                refine g_aload_n hk dX6_hasWindow_36 rfl ?_
                refine g_iload_n hk dX6_hasWindow_37 rfl ?_
                refine g_iload_n hk dX6_hasWindow_38 rfl ?_
                refine g_iadd hk dX6_hasWindow_39 ?_
                refine g_topi (fun y2296 ey2296 => ?_)
                replace hF := FE.lt hF ey2296
                have hy2296 : y2296.toInt = z1.toInt + x2264.toInt := i32_add ey2296 rfl rfl (by omega) (by omega)
                refine g_callV (n := 1) hk (k188_X6_hasReading l D zt q d I A y2296 hIv) (SP.same _) (fun _ h => h) (gi_V (List.mem_cons_of_mem _ (List.mem_append_left _ (List.mem_of_getElem? (i := 1) rfl))) (List.mem_cons_of_mem _ (List.mem_append_left _ (List.mem_of_getElem? (i := 2) rfl))) (List.mem_cons_of_mem _ (List.mem_append_left _ (List.mem_of_getElem? (i := 3) rfl))) (List.mem_cons_of_mem _ (List.mem_append_left _ (List.mem_of_getElem? (i := 4) rfl))) (gi_sub (fun w h => (List.mem_cons_of_mem _ (List.mem_append_right _ (List.mem_append_right _ (List.mem_append_left _ h))))) zg_k188_X6_hasReading)) rfl rfl rfl (by decide +kernel) ⟨Nat.le_of_ble_eq_true rfl, Nat.le_of_ble_eq_true rfl⟩ 13 rfl rfl rfl rfl (Nat.le_of_ble_eq_true rfl) ⟨Nat.le_of_ble_eq_true rfl, Nat.le_of_ble_eq_true rfl⟩ dX6_hasWindow_40 (fun v ty' w' hp hk' => ?_)
                rcases hp with ⟨hC, rfl, rfl⟩ | ⟨hC, rfl, rfl⟩
                · skip
                  replace hF := FE.pos hF hC
                  show GW κ 4 0 0 (wX q d I A) 43 [(3, .int x2264), (0, .ref (q 13)), (1, .int z1), (2, .int z2)] [.int 0]
                  refine g_if_ne (tgt := 48) (a := 0) hk dX6_hasWindow_43 (by decide) rfl (fun z9 => absurd z9 (show ¬ ((0 : Int) ≠ (0 : Int)) from by decide)) (fun _ => ?_)
                  refine g_iconst (v := 0) hk dX6_hasWindow_46 (by decide) ?_
                  exact g_iret hk hR rfl (Or.inl ⟨hF, rfl, rfl⟩) dX6_hasWindow_47
                · skip
                  replace hF := FE.neg hF (fe_ne hC (by decide))
                  show GW κ 4 0 0 (wX q d I A) 43 [(3, .int x2264), (0, .ref (q 13)), (1, .int z1), (2, .int z2)] [.int 1]
                  refine g_if_ne (tgt := 48) (a := 1) hk dX6_hasWindow_43 (by decide) rfl (fun _ => ?_) (fun z9 => absurd (show (1 : Int) ≠ (0 : Int) from by decide) z9)
                  obtain ⟨y2299, ey2299⟩ : ∃ y : Int32, y = x2264 + Int32.ofInt 1 := ⟨_, rfl⟩
                  replace hF := FE.lt hF ey2299
                  have hy2299 : y2299.toInt = x2264.toInt + 1 := i32_add ey2299 rfl (by decide) (by omega) (by omega)
                  refine g_iinc (v := y2299) (lv' := [(3, .int y2299), (0, .ref (q 13)), (1, .int z1), (2, .int z2)]) hk 0 dX6_hasWindow_48 rfl ey2299.symm (by decide) rfl ?_
                  refine g_goto (tgt := 31) hk dX6_hasWindow_51 (by decide) ?_
                  exact g_lv (List.forall_mem_cons.mpr ⟨List.mem_of_getElem? (i := 0) rfl, (List.forall_mem_cons.mpr ⟨List.mem_of_getElem? (i := 1) rfl, (List.forall_mem_cons.mpr ⟨List.mem_of_getElem? (i := 2) rfl, (List.forall_mem_cons.mpr ⟨List.mem_of_getElem? (i := 3) rfl, (fun _ h => absurd h List.not_mem_nil)⟩)⟩)⟩)⟩) (ih2294 y2299 (by omega) (by omega) (by omega) (by omega) hF)
          have k2301 : (0 : Int32).toInt = 0 := rfl
          have n2300a : 161 - 0 < (FU : Int) := by have := FU_eq; omega
          have n2300b : 0 < FU := by have := FU_eq; omega
          exact lp2290 FU 0 (by omega) (by omega) n2300a n2300b hF
        · skip
          replace hF := FE.neg hF c2263
          refine g_iconst (v := 0) hk dX6_hasWindow_27 (by decide) ?_
          exact g_iret hk hR rfl (Or.inl ⟨hF, rfl, rfl⟩) dX6_hasWindow_28
noncomputable def bX6_sumOf_5 (z2 : Int32) (I : Nat → Int32) (A : Nat → Nat → Int32) (z1 : Int32) : (Int32 → Int32 → (Int32)) → Int32 → Int32 → (Int32) := fun kk2358 x2311 x2312 => if z2.toInt ≤ x2311.toInt then x2312 else f_lt (z1 + x2311) fun y2365 => if fX6_hasReading I A y2365 = 0 then f_lt (x2311 + Int32.ofInt 1) fun y2368 => kk2358 y2368 x2312 else f_lt (z1 + x2311) fun y2369 => f_lt (fX6_valueAt I A y2369) fun y2370 => f_lt (x2312 + y2370) fun y2373 => f_lt (x2311 + Int32.ofInt 1) fun y2374 => kk2358 y2374 y2373
noncomputable def fX6_sumOf (I : Nat → Int32) (A : Nat → Nat → Int32) (z1 : Int32) (z2 : Int32) : Int32 := itr_ii (0 : Int32) (bX6_sumOf_5 z2 I A z1) FU 0 0
def wo_k208_X6_sumOf : List Cond := [Cond.methodLink RX6 37 yX6_hasReading, Cond.instanceMethod yX6_hasReading, Cond.selects RX6 yX6_hasReading yX6_hasReading, Cond.initialized RX6, Cond.methodLink RX6 33 yX6_valueAt, Cond.instanceMethod yX6_valueAt, Cond.selects RX6 yX6_valueAt yX6_valueAt]
def wz_k208_X6_sumOf : List Cond := .code yX6_sumOf cX6_sumOf 5 (some .int) :: (wo_k208_X6_sumOf ++ (wz_k188_X6_hasReading ++ (wz_k179_X6_valueAt ++ ([] : List Cond))))
theorem zg_k208_X6_sumOf : ∀ w ∈ wz_k208_X6_sumOf, goodWord w = true := zg_cons rfl (zg_app (by decide +kernel) (zg_app zg_k188_X6_hasReading (zg_app zg_k179_X6_valueAt zg_nil)))
theorem zi_k208_X6_sumOf : ∀ w ∈ wz_k208_X6_sumOf, w ∈ lw_tbl := zi_cons zw_910 (zi_app (zi_cons zw_905 (zi_cons zw_840 (zi_cons zw_841 (zi_cons zw_109 (zi_cons zw_843 (zi_cons zw_807 (zi_cons zw_808 zi_nil))))))) (zi_app zi_k188_X6_hasReading (zi_app zi_k179_X6_valueAt zi_nil)))
set_option maxHeartbeats 4000000 in
set_option maxRecDepth 100000 in
theorem k208_X6_sumOf (l : Launch) (D : va_G) (zt : Nat × Nat × Nat × (Nat → Nat) × (Nat → Nat)) (q : Nat → Nat) (d : Nat → ClassId) (I : Nat → Int32) (A : Nat → Nat → Int32) (z1 : Int32) (z2 : Int32) (hIv : IvX I A) : GM l D zt (tyX d) yX6_sumOf wz_k208_X6_sumOf ({ frames := 2, cells := 0, slots := 0, locals := 42 } : Room) [.ref (q 13), .int z1, .int z2] (wX q d I A) (fun v _ w' => ∃ y0 : Int32, FE (fX6_sumOf I A z1 z2) y0 ∧ v = some (.int y0) ∧ w' = wX q d I A) 0 0 := by
  refine GM.of (cc := cX6_sumOf) (maxL := 5) (ret := (some .int)) (own := RX6) (lv := [(0, .ref (q 13)), (1, .int z1), (2, .int z2)]) (by decide) rfl rfl (Nat.le_of_ble_eq_true rfl) rfl (fun κ sz hk hR hN => ?_)
  have hF : FE (fX6_sumOf I A z1 z2) (fX6_sumOf I A z1 z2) := FE.rf
  refine g_iconst (v := 0) hk dX6_sumOf_0 (by decide) ?_
  refine g_istore_n (lv' := [(3, .int 0), (0, .ref (q 13)), (1, .int z1), (2, .int z2)]) hk dX6_sumOf_1 (by decide) rfl ?_
  refine g_iconst (v := 0) hk dX6_sumOf_2 (by decide) ?_
  refine g_istore (lv' := [(4, .int 0), (3, .int 0), (0, .ref (q 13)), (1, .int z1), (2, .int z2)]) hk dX6_sumOf_3 (by decide) rfl ?_
  have lp2355 : ∀ (n2356 : Nat) (x2311 : Int32) (x2312 : Int32), (0 ≤ x2311.toInt) → (z2.toInt + 1 - x2311.toInt < (n2356 : Int)) → (0 < n2356) → (FE (fX6_sumOf I A z1 z2) (itr_ii (0 : Int32) (bX6_sumOf_5 z2 I A z1) n2356 x2311 x2312)) → GW κ 5 0 0 (wX q d I A) 5 [(4, .int x2311), (3, .int x2312), (0, .ref (q 13)), (1, .int z1), (2, .int z2)] [] := by
    intro n2356
    induction n2356 with
    | zero =>
      intro x2311 x2312 h2354 m2357 m2357z hF
      exact absurd m2357z (Nat.lt_irrefl 0)
    | succ n2356 ih2359 =>
      intro x2311 x2312 h2354 m2357 m2357z hF
      replace hF := FE.itr_ii hF
      refine g_iload hk dX6_sumOf_5 rfl ?_
      refine g_iload_n hk dX6_sumOf_7 rfl ?_
      have b2360l := Int32.le_toInt x2311
      have b2360h := Int32.toInt_lt x2311
      have b2361l := Int32.le_toInt z2
      have b2361h := Int32.toInt_lt z2
      refine g_icmp_ge (tgt := 39) (a := x2311.toInt) (b := z2.toInt) hk dX6_sumOf_8 (by decide) rfl rfl (fun c2362 => ?_) (fun c2362 => ?_)
      · skip
        replace hF := FE.pos hF c2362
        refine g_iload_n hk dX6_sumOf_39 rfl ?_
        have b2363l := Int32.le_toInt x2312
        have b2363h := Int32.toInt_lt x2312
        exact g_iret hk hR rfl ⟨x2312, hF, rfl, rfl⟩ dX6_sumOf_40
      · skip
        replace hF := FE.neg hF c2362
        refine g_aload_n hk dX6_sumOf_11 rfl ?_
        refine g_iload_n hk dX6_sumOf_12 rfl ?_
        refine g_iload hk dX6_sumOf_13 rfl ?_
        have b2364l := Int32.le_toInt z1
        have b2364h := Int32.toInt_lt z1
        refine g_iadd hk dX6_sumOf_15 ?_
        refine g_topi (fun y2365 ey2365 => ?_)
        replace hF := FE.lt hF ey2365
        refine g_callV (n := 1) hk (k188_X6_hasReading l D zt q d I A y2365 hIv) (SP.same _) (fun _ h => h) (gi_V (List.mem_cons_of_mem _ (List.mem_append_left _ (List.mem_of_getElem? (i := 0) rfl))) (List.mem_cons_of_mem _ (List.mem_append_left _ (List.mem_of_getElem? (i := 1) rfl))) (List.mem_cons_of_mem _ (List.mem_append_left _ (List.mem_of_getElem? (i := 2) rfl))) (List.mem_cons_of_mem _ (List.mem_append_left _ (List.mem_of_getElem? (i := 3) rfl))) (gi_sub (fun w h => (List.mem_cons_of_mem _ (List.mem_append_right _ (List.mem_append_left _ h)))) zg_k188_X6_hasReading)) rfl rfl rfl (by decide +kernel) ⟨Nat.le_of_ble_eq_true rfl, Nat.le_of_ble_eq_true rfl⟩ 13 rfl rfl rfl rfl (Nat.le_of_ble_eq_true rfl) ⟨Nat.le_of_ble_eq_true rfl, Nat.le_of_ble_eq_true rfl⟩ dX6_sumOf_16 (fun v ty' w' hp hk' => ?_)
        rcases hp with ⟨hC, rfl, rfl⟩ | ⟨hC, rfl, rfl⟩
        · skip
          replace hF := FE.pos hF hC
          show GW κ 5 0 0 (wX q d I A) 19 [(4, .int x2311), (3, .int x2312), (0, .ref (q 13)), (1, .int z1), (2, .int z2)] [.int 0]
          refine g_if_eq (tgt := 33) (a := 0) hk dX6_sumOf_19 (by decide) rfl (fun _ => ?_) (fun z9 => absurd (show (0 : Int) = (0 : Int) from by decide) z9)
          obtain ⟨y2368, ey2368⟩ : ∃ y : Int32, y = x2311 + Int32.ofInt 1 := ⟨_, rfl⟩
          replace hF := FE.lt hF ey2368
          have hy2368 : y2368.toInt = x2311.toInt + 1 := i32_add ey2368 rfl (by decide) (by omega) (by omega)
          refine g_iinc (v := y2368) (lv' := [(4, .int y2368), (3, .int x2312), (0, .ref (q 13)), (1, .int z1), (2, .int z2)]) hk 0 dX6_sumOf_33 rfl ey2368.symm (by decide) rfl ?_
          refine g_goto (tgt := 5) hk dX6_sumOf_36 (by decide) ?_
          exact g_lv (List.forall_mem_cons.mpr ⟨List.mem_of_getElem? (i := 0) rfl, (List.forall_mem_cons.mpr ⟨List.mem_of_getElem? (i := 1) rfl, (List.forall_mem_cons.mpr ⟨List.mem_of_getElem? (i := 2) rfl, (List.forall_mem_cons.mpr ⟨List.mem_of_getElem? (i := 3) rfl, (List.forall_mem_cons.mpr ⟨List.mem_of_getElem? (i := 4) rfl, (fun _ h => absurd h List.not_mem_nil)⟩)⟩)⟩)⟩)⟩) (ih2359 y2368 x2312 (by omega) (by omega) (by omega) hF)
        · skip
          replace hF := FE.neg hF (fe_ne hC (by decide))
          show GW κ 5 0 0 (wX q d I A) 19 [(4, .int x2311), (3, .int x2312), (0, .ref (q 13)), (1, .int z1), (2, .int z2)] [.int 1]
          refine g_if_eq (tgt := 33) (a := 1) hk dX6_sumOf_19 (by decide) rfl (fun z9 => absurd z9 (show ¬ ((1 : Int) = (0 : Int)) from by decide)) (fun _ => ?_)
          refine g_iload_n hk dX6_sumOf_22 rfl ?_
          refine g_aload_n hk dX6_sumOf_23 rfl ?_
          refine g_iload_n hk dX6_sumOf_24 rfl ?_
          refine g_iload hk dX6_sumOf_25 rfl ?_
          refine g_iadd hk dX6_sumOf_27 ?_
          refine g_topi (fun y2369 ey2369 => ?_)
          replace hF := FE.lt hF ey2369
          refine g_callV (n := 1) hk (k179_X6_valueAt l D zt q d I A y2369 hIv) (SP.same _) (fun _ h => h) (gi_V (List.mem_cons_of_mem _ (List.mem_append_left _ (List.mem_of_getElem? (i := 4) rfl))) (List.mem_cons_of_mem _ (List.mem_append_left _ (List.mem_of_getElem? (i := 5) rfl))) (List.mem_cons_of_mem _ (List.mem_append_left _ (List.mem_of_getElem? (i := 6) rfl))) (List.mem_cons_of_mem _ (List.mem_append_left _ (List.mem_of_getElem? (i := 3) rfl))) (gi_sub (fun w h => (List.mem_cons_of_mem _ (List.mem_append_right _ (List.mem_append_right _ (List.mem_append_left _ h))))) zg_k179_X6_valueAt)) rfl rfl rfl (by decide +kernel) ⟨Nat.le_of_ble_eq_true rfl, Nat.le_of_ble_eq_true rfl⟩ 13 rfl rfl rfl rfl (Nat.le_of_ble_eq_true rfl) ⟨Nat.le_of_ble_eq_true rfl, Nat.le_of_ble_eq_true rfl⟩ dX6_sumOf_28 (fun v ty' w' hp hk' => ?_)
          obtain ⟨y2370, hC, rfl, rfl⟩ := hp
          replace hF := FE.lt hF (fe_s hC)
          show GW κ 5 0 0 (wX q d I A) 31 [(4, .int x2311), (3, .int x2312), (0, .ref (q 13)), (1, .int z1), (2, .int z2)] [.int y2370, .int x2312]
          have b2371l := Int32.le_toInt x2312
          have b2371h := Int32.toInt_lt x2312
          have b2372l := Int32.le_toInt y2370
          have b2372h := Int32.toInt_lt y2370
          refine g_iadd hk dX6_sumOf_31 ?_
          refine g_topi (fun y2373 ey2373 => ?_)
          replace hF := FE.lt hF ey2373
          refine g_istore_n (lv' := [(3, .int y2373), (4, .int x2311), (0, .ref (q 13)), (1, .int z1), (2, .int z2)]) hk dX6_sumOf_32 (by decide) rfl ?_
          obtain ⟨y2374, ey2374⟩ : ∃ y : Int32, y = x2311 + Int32.ofInt 1 := ⟨_, rfl⟩
          replace hF := FE.lt hF ey2374
          have hy2374 : y2374.toInt = x2311.toInt + 1 := i32_add ey2374 rfl (by decide) (by omega) (by omega)
          refine g_iinc (v := y2374) (lv' := [(4, .int y2374), (3, .int y2373), (0, .ref (q 13)), (1, .int z1), (2, .int z2)]) hk 1 dX6_sumOf_33 rfl ey2374.symm (by decide) rfl ?_
          refine g_goto (tgt := 5) hk dX6_sumOf_36 (by decide) ?_
          exact g_lv (List.forall_mem_cons.mpr ⟨List.mem_of_getElem? (i := 0) rfl, (List.forall_mem_cons.mpr ⟨List.mem_of_getElem? (i := 1) rfl, (List.forall_mem_cons.mpr ⟨List.mem_of_getElem? (i := 2) rfl, (List.forall_mem_cons.mpr ⟨List.mem_of_getElem? (i := 3) rfl, (List.forall_mem_cons.mpr ⟨List.mem_of_getElem? (i := 4) rfl, (fun _ h => absurd h List.not_mem_nil)⟩)⟩)⟩)⟩)⟩) (ih2359 y2374 y2373 (by omega) (by omega) (by omega) hF)
  have k2376 : (0 : Int32).toInt = 0 := rfl
  have b2377 := Int32.le_toInt z2
  have b2378 := Int32.toInt_lt z2
  have n2375a : z2.toInt + 1 - 0 < (FU : Int) := by have := FU_eq; omega
  have n2375b : 0 < FU := by have := FU_eq; omega
  exact lp2355 FU 0 0 (by omega) n2375a n2375b hF
noncomputable def bX6_leastOf_7 (z2 : Int32) (I : Nat → Int32) (A : Nat → Nat → Int32) (z1 : Int32) : (Int32 → Int32 → (Int32)) → Int32 → Int32 → (Int32) := fun kk2428 x2382 x2383 => if z2.toInt ≤ x2382.toInt then x2383 else f_lt (z1 + x2382) fun y2435 => f_lt (fX6_valueAt I A y2435) fun y2436 => if y2436.toInt = (-1000) then f_lt (x2382 + Int32.ofInt 1) fun y2439 => kk2428 y2439 x2383 else if x2383.toInt = (-1000) then f_lt (x2382 + Int32.ofInt 1) fun y2442 => kk2428 y2442 y2436 else if x2383.toInt ≤ y2436.toInt then f_lt (x2382 + Int32.ofInt 1) fun y2444 => kk2428 y2444 x2383 else f_lt (x2382 + Int32.ofInt 1) fun y2445 => kk2428 y2445 y2436
noncomputable def fX6_leastOf (I : Nat → Int32) (A : Nat → Nat → Int32) (z1 : Int32) (z2 : Int32) : Int32 := itr_ii (0 : Int32) (bX6_leastOf_7 z2 I A z1) FU 0 (-1000)
def wz_k209_X6_leastOf : List Cond := .code yX6_leastOf cX6_leastOf 6 (some .int) :: (wo_k188_X6_hasReading ++ (wz_k179_X6_valueAt ++ ([] : List Cond)))
theorem zg_k209_X6_leastOf : ∀ w ∈ wz_k209_X6_leastOf, goodWord w = true := zg_cons rfl (zg_app (by decide +kernel) (zg_app zg_k179_X6_valueAt zg_nil))
theorem zi_k209_X6_leastOf : ∀ w ∈ wz_k209_X6_leastOf, w ∈ lw_tbl := zi_cons zw_914 (zi_app (zi_cons zw_843 (zi_cons zw_807 (zi_cons zw_808 (zi_cons zw_109 zi_nil)))) (zi_app zi_k179_X6_valueAt zi_nil))
set_option maxHeartbeats 4000000 in
set_option maxRecDepth 100000 in
theorem k209_X6_leastOf (l : Launch) (D : va_G) (zt : Nat × Nat × Nat × (Nat → Nat) × (Nat → Nat)) (q : Nat → Nat) (d : Nat → ClassId) (I : Nat → Int32) (A : Nat → Nat → Int32) (z1 : Int32) (z2 : Int32) (hIv : IvX I A) : GM l D zt (tyX d) yX6_leastOf wz_k209_X6_leastOf ({ frames := 1, cells := 0, slots := 0, locals := 21 } : Room) [.ref (q 13), .int z1, .int z2] (wX q d I A) (fun v _ w' => ∃ y0 : Int32, FE (fX6_leastOf I A z1 z2) y0 ∧ v = some (.int y0) ∧ w' = wX q d I A) 0 0 := by
  refine GM.of (cc := cX6_leastOf) (maxL := 6) (ret := (some .int)) (own := RX6) (lv := [(0, .ref (q 13)), (1, .int z1), (2, .int z2)]) (by decide) rfl rfl (Nat.le_of_ble_eq_true rfl) rfl (fun κ sz hk hR hN => ?_)
  have hF : FE (fX6_leastOf I A z1 z2) (fX6_leastOf I A z1 z2) := FE.rf
  refine g_sipush (v := (-1000)) hk dX6_leastOf_0 (by decide) ?_
  refine g_istore_n (lv' := [(3, .int (-1000)), (0, .ref (q 13)), (1, .int z1), (2, .int z2)]) hk dX6_leastOf_3 (by decide) rfl ?_
  refine g_iconst (v := 0) hk dX6_leastOf_4 (by decide) ?_
  refine g_istore (lv' := [(4, .int 0), (3, .int (-1000)), (0, .ref (q 13)), (1, .int z1), (2, .int z2)]) hk dX6_leastOf_5 (by decide) rfl ?_
  have lp2425 : ∀ (n2426 : Nat) (x2382 : Int32) (x2383 : Int32), (0 ≤ x2382.toInt) → (z2.toInt + 1 - x2382.toInt < (n2426 : Int)) → (0 < n2426) → (FE (fX6_leastOf I A z1 z2) (itr_ii (0 : Int32) (bX6_leastOf_7 z2 I A z1) n2426 x2382 x2383)) → GW κ 6 0 0 (wX q d I A) 7 [(4, .int x2382), (3, .int x2383), (0, .ref (q 13)), (1, .int z1), (2, .int z2)] [] := by
    intro n2426
    induction n2426 with
    | zero =>
      intro x2382 x2383 h2424 m2427 m2427z hF
      exact absurd m2427z (Nat.lt_irrefl 0)
    | succ n2426 ih2429 =>
      intro x2382 x2383 h2424 m2427 m2427z hF
      replace hF := FE.itr_ii hF
      refine g_iload hk dX6_leastOf_7 rfl ?_
      refine g_iload_n hk dX6_leastOf_9 rfl ?_
      have b2430l := Int32.le_toInt x2382
      have b2430h := Int32.toInt_lt x2382
      have b2431l := Int32.le_toInt z2
      have b2431h := Int32.toInt_lt z2
      refine g_icmp_ge (tgt := 53) (a := x2382.toInt) (b := z2.toInt) hk dX6_leastOf_10 (by decide) rfl rfl (fun c2432 => ?_) (fun c2432 => ?_)
      · skip
        replace hF := FE.pos hF c2432
        refine g_iload_n hk dX6_leastOf_53 rfl ?_
        have b2433l := Int32.le_toInt x2383
        have b2433h := Int32.toInt_lt x2383
        exact g_iret hk hR rfl ⟨x2383, hF, rfl, rfl⟩ dX6_leastOf_54
      · skip
        replace hF := FE.neg hF c2432
        refine g_aload_n hk dX6_leastOf_13 rfl ?_
        refine g_iload_n hk dX6_leastOf_14 rfl ?_
        refine g_iload hk dX6_leastOf_15 rfl ?_
        have b2434l := Int32.le_toInt z1
        have b2434h := Int32.toInt_lt z1
        refine g_iadd hk dX6_leastOf_17 ?_
        refine g_topi (fun y2435 ey2435 => ?_)
        replace hF := FE.lt hF ey2435
        refine g_callV (n := 1) hk (k179_X6_valueAt l D zt q d I A y2435 hIv) (SP.same _) (fun _ h => h) (gi_V (List.mem_cons_of_mem _ (List.mem_append_left _ (List.mem_of_getElem? (i := 0) rfl))) (List.mem_cons_of_mem _ (List.mem_append_left _ (List.mem_of_getElem? (i := 1) rfl))) (List.mem_cons_of_mem _ (List.mem_append_left _ (List.mem_of_getElem? (i := 2) rfl))) (List.mem_cons_of_mem _ (List.mem_append_left _ (List.mem_of_getElem? (i := 3) rfl))) (gi_sub (fun w h => (List.mem_cons_of_mem _ (List.mem_append_right _ (List.mem_append_left _ h)))) zg_k179_X6_valueAt)) rfl rfl rfl (by decide +kernel) ⟨Nat.le_of_ble_eq_true rfl, Nat.le_of_ble_eq_true rfl⟩ 13 rfl rfl rfl rfl (Nat.le_of_ble_eq_true rfl) ⟨Nat.le_of_ble_eq_true rfl, Nat.le_of_ble_eq_true rfl⟩ dX6_leastOf_18 (fun v ty' w' hp hk' => ?_)
        obtain ⟨y2436, hC, rfl, rfl⟩ := hp
        replace hF := FE.lt hF (fe_s hC)
        show GW κ 6 0 0 (wX q d I A) 21 [(4, .int x2382), (3, .int x2383), (0, .ref (q 13)), (1, .int z1), (2, .int z2)] [.int y2436]
        refine g_istore (lv' := [(5, .int y2436), (4, .int x2382), (3, .int x2383), (0, .ref (q 13)), (1, .int z1), (2, .int z2)]) hk dX6_leastOf_21 (by decide) rfl ?_
        refine g_iload hk dX6_leastOf_23 rfl ?_
        refine g_sipush (v := (-1000)) hk dX6_leastOf_25 (by decide) ?_
        have b2437l := Int32.le_toInt y2436
        have b2437h := Int32.toInt_lt y2436
        refine g_icmp_eq (tgt := 47) (a := y2436.toInt) (b := (-1000)) hk dX6_leastOf_28 (by decide) rfl rfl (fun c2438 => ?_) (fun c2438 => ?_)
        · skip
          replace hF := FE.pos hF c2438
          obtain ⟨y2439, ey2439⟩ : ∃ y : Int32, y = x2382 + Int32.ofInt 1 := ⟨_, rfl⟩
          replace hF := FE.lt hF ey2439
          have hy2439 : y2439.toInt = x2382.toInt + 1 := i32_add ey2439 rfl (by decide) (by omega) (by omega)
          refine g_iinc (v := y2439) (lv' := [(4, .int y2439), (5, .int y2436), (3, .int x2383), (0, .ref (q 13)), (1, .int z1), (2, .int z2)]) hk 1 dX6_leastOf_47 rfl ey2439.symm (by decide) rfl ?_
          refine g_goto (tgt := 7) hk dX6_leastOf_50 (by decide) ?_
          exact g_lv (List.forall_mem_cons.mpr ⟨List.mem_of_getElem? (i := 0) rfl, (List.forall_mem_cons.mpr ⟨List.mem_of_getElem? (i := 2) rfl, (List.forall_mem_cons.mpr ⟨List.mem_of_getElem? (i := 3) rfl, (List.forall_mem_cons.mpr ⟨List.mem_of_getElem? (i := 4) rfl, (List.forall_mem_cons.mpr ⟨List.mem_of_getElem? (i := 5) rfl, (fun _ h => absurd h List.not_mem_nil)⟩)⟩)⟩)⟩)⟩) (ih2429 y2439 x2383 (by omega) (by omega) (by omega) hF)
        · skip
          replace hF := FE.neg hF c2438
          refine g_iload_n hk dX6_leastOf_31 rfl ?_
          refine g_sipush (v := (-1000)) hk dX6_leastOf_32 (by decide) ?_
          have b2440l := Int32.le_toInt x2383
          have b2440h := Int32.toInt_lt x2383
          refine g_icmp_eq (tgt := 44) (a := x2383.toInt) (b := (-1000)) hk dX6_leastOf_35 (by decide) rfl rfl (fun c2441 => ?_) (fun c2441 => ?_)
          · skip
            replace hF := FE.pos hF c2441
            refine g_iload hk dX6_leastOf_44 rfl ?_
            refine g_istore_n (lv' := [(3, .int y2436), (5, .int y2436), (4, .int x2382), (0, .ref (q 13)), (1, .int z1), (2, .int z2)]) hk dX6_leastOf_46 (by decide) rfl ?_
            obtain ⟨y2442, ey2442⟩ : ∃ y : Int32, y = x2382 + Int32.ofInt 1 := ⟨_, rfl⟩
            replace hF := FE.lt hF ey2442
            have hy2442 : y2442.toInt = x2382.toInt + 1 := i32_add ey2442 rfl (by decide) (by omega) (by omega)
            refine g_iinc (v := y2442) (lv' := [(4, .int y2442), (3, .int y2436), (5, .int y2436), (0, .ref (q 13)), (1, .int z1), (2, .int z2)]) hk 2 dX6_leastOf_47 rfl ey2442.symm (by decide) rfl ?_
            refine g_goto (tgt := 7) hk dX6_leastOf_50 (by decide) ?_
            exact g_lv (List.forall_mem_cons.mpr ⟨List.mem_of_getElem? (i := 0) rfl, (List.forall_mem_cons.mpr ⟨List.mem_of_getElem? (i := 1) rfl, (List.forall_mem_cons.mpr ⟨List.mem_of_getElem? (i := 3) rfl, (List.forall_mem_cons.mpr ⟨List.mem_of_getElem? (i := 4) rfl, (List.forall_mem_cons.mpr ⟨List.mem_of_getElem? (i := 5) rfl, (fun _ h => absurd h List.not_mem_nil)⟩)⟩)⟩)⟩)⟩) (ih2429 y2442 y2436 (by omega) (by omega) (by omega) hF)
          · skip
            replace hF := FE.neg hF c2441
            refine g_iload hk dX6_leastOf_38 rfl ?_
            refine g_iload_n hk dX6_leastOf_40 rfl ?_
            refine g_icmp_ge (tgt := 47) (a := y2436.toInt) (b := x2383.toInt) hk dX6_leastOf_41 (by decide) rfl rfl (fun c2443 => ?_) (fun c2443 => ?_)
            · skip
              replace hF := FE.pos hF c2443
              obtain ⟨y2444, ey2444⟩ : ∃ y : Int32, y = x2382 + Int32.ofInt 1 := ⟨_, rfl⟩
              replace hF := FE.lt hF ey2444
              have hy2444 : y2444.toInt = x2382.toInt + 1 := i32_add ey2444 rfl (by decide) (by omega) (by omega)
              refine g_iinc (v := y2444) (lv' := [(4, .int y2444), (5, .int y2436), (3, .int x2383), (0, .ref (q 13)), (1, .int z1), (2, .int z2)]) hk 1 dX6_leastOf_47 rfl ey2444.symm (by decide) rfl ?_
              refine g_goto (tgt := 7) hk dX6_leastOf_50 (by decide) ?_
              exact g_lv (List.forall_mem_cons.mpr ⟨List.mem_of_getElem? (i := 0) rfl, (List.forall_mem_cons.mpr ⟨List.mem_of_getElem? (i := 2) rfl, (List.forall_mem_cons.mpr ⟨List.mem_of_getElem? (i := 3) rfl, (List.forall_mem_cons.mpr ⟨List.mem_of_getElem? (i := 4) rfl, (List.forall_mem_cons.mpr ⟨List.mem_of_getElem? (i := 5) rfl, (fun _ h => absurd h List.not_mem_nil)⟩)⟩)⟩)⟩)⟩) (ih2429 y2444 x2383 (by omega) (by omega) (by omega) hF)
            · skip
              replace hF := FE.neg hF c2443
              refine g_iload hk dX6_leastOf_44 rfl ?_
              refine g_istore_n (lv' := [(3, .int y2436), (5, .int y2436), (4, .int x2382), (0, .ref (q 13)), (1, .int z1), (2, .int z2)]) hk dX6_leastOf_46 (by decide) rfl ?_
              obtain ⟨y2445, ey2445⟩ : ∃ y : Int32, y = x2382 + Int32.ofInt 1 := ⟨_, rfl⟩
              replace hF := FE.lt hF ey2445
              have hy2445 : y2445.toInt = x2382.toInt + 1 := i32_add ey2445 rfl (by decide) (by omega) (by omega)
              refine g_iinc (v := y2445) (lv' := [(4, .int y2445), (3, .int y2436), (5, .int y2436), (0, .ref (q 13)), (1, .int z1), (2, .int z2)]) hk 2 dX6_leastOf_47 rfl ey2445.symm (by decide) rfl ?_
              refine g_goto (tgt := 7) hk dX6_leastOf_50 (by decide) ?_
              exact g_lv (List.forall_mem_cons.mpr ⟨List.mem_of_getElem? (i := 0) rfl, (List.forall_mem_cons.mpr ⟨List.mem_of_getElem? (i := 1) rfl, (List.forall_mem_cons.mpr ⟨List.mem_of_getElem? (i := 3) rfl, (List.forall_mem_cons.mpr ⟨List.mem_of_getElem? (i := 4) rfl, (List.forall_mem_cons.mpr ⟨List.mem_of_getElem? (i := 5) rfl, (fun _ h => absurd h List.not_mem_nil)⟩)⟩)⟩)⟩)⟩) (ih2429 y2445 y2436 (by omega) (by omega) (by omega) hF)
  have k2447 : (0 : Int32).toInt = 0 := rfl
  have k2448 : ((-1000) : Int32).toInt = (-1000) := rfl
  have b2449 := Int32.le_toInt z2
  have b2450 := Int32.toInt_lt z2
  have n2446a : z2.toInt + 1 - 0 < (FU : Int) := by have := FU_eq; omega
  have n2446b : 0 < FU := by have := FU_eq; omega
  exact lp2425 FU 0 (-1000) (by omega) n2446a n2446b hF
noncomputable def bX6_greatestOf_7 (z2 : Int32) (I : Nat → Int32) (A : Nat → Nat → Int32) (z1 : Int32) : (Int32 → Int32 → (Int32)) → Int32 → Int32 → (Int32) := fun kk2492 x2454 x2455 => if z2.toInt ≤ x2454.toInt then x2455 else f_lt (z1 + x2454) fun y2499 => f_lt (fX6_valueAt I A y2499) fun y2500 => f_lt (if x2455 < y2500 then y2500 else x2455) fun y2503 => f_lt (x2454 + Int32.ofInt 1) fun y2504 => kk2492 y2504 y2503
noncomputable def fX6_greatestOf (I : Nat → Int32) (A : Nat → Nat → Int32) (z1 : Int32) (z2 : Int32) : Int32 := itr_ii (0 : Int32) (bX6_greatestOf_7 z2 I A z1) FU 0 (-1000)
def wo_k210_X6_greatestOf : List Cond := [Cond.methodLink RX6 33 yX6_valueAt, Cond.instanceMethod yX6_valueAt, Cond.selects RX6 yX6_valueAt yX6_valueAt, Cond.initialized RX6, Cond.methodLink RX6 40 Lib.Math.max.name, Cond.static Lib.Math.max.name, Cond.initialized "java/lang/Math", Cond.code Lib.Math.max.name Lib.Math.max.code 2 (some .int)]
def wz_k210_X6_greatestOf : List Cond := .code yX6_greatestOf cX6_greatestOf 5 (some .int) :: (wo_k210_X6_greatestOf ++ (wz_k179_X6_valueAt ++ ([] : List Cond)))
theorem zg_k210_X6_greatestOf : ∀ w ∈ wz_k210_X6_greatestOf, goodWord w = true := zg_cons rfl (zg_app (by decide +kernel) (zg_app zg_k179_X6_valueAt zg_nil))
theorem zi_k210_X6_greatestOf : ∀ w ∈ wz_k210_X6_greatestOf, w ∈ lw_tbl := zi_cons zw_918 (zi_app (zi_cons zw_843 (zi_cons zw_807 (zi_cons zw_808 (zi_cons zw_109 (zi_cons zw_919 (zi_cons zw_920 (zi_cons zw_120 (zi_cons zw_921 zi_nil)))))))) (zi_app zi_k179_X6_valueAt zi_nil))
set_option maxHeartbeats 4000000 in
set_option maxRecDepth 100000 in
theorem k210_X6_greatestOf (l : Launch) (D : va_G) (zt : Nat × Nat × Nat × (Nat → Nat) × (Nat → Nat)) (q : Nat → Nat) (d : Nat → ClassId) (I : Nat → Int32) (A : Nat → Nat → Int32) (z1 : Int32) (z2 : Int32) (hIv : IvX I A) : GM l D zt (tyX d) yX6_greatestOf wz_k210_X6_greatestOf ({ frames := 1, cells := 0, slots := 0, locals := 21 } : Room) [.ref (q 13), .int z1, .int z2] (wX q d I A) (fun v _ w' => ∃ y0 : Int32, ((-1000) ≤ y0.toInt) ∧ FE (fX6_greatestOf I A z1 z2) y0 ∧ v = some (.int y0) ∧ w' = wX q d I A) 0 0 := by
  refine GM.of (cc := cX6_greatestOf) (maxL := 5) (ret := (some .int)) (own := RX6) (lv := [(0, .ref (q 13)), (1, .int z1), (2, .int z2)]) (by decide) rfl rfl (Nat.le_of_ble_eq_true rfl) rfl (fun κ sz hk hR hN => ?_)
  have hF : FE (fX6_greatestOf I A z1 z2) (fX6_greatestOf I A z1 z2) := FE.rf
  refine g_sipush (v := (-1000)) hk dX6_greatestOf_0 (by decide) ?_
  refine g_istore_n (lv' := [(3, .int (-1000)), (0, .ref (q 13)), (1, .int z1), (2, .int z2)]) hk dX6_greatestOf_3 (by decide) rfl ?_
  refine g_iconst (v := 0) hk dX6_greatestOf_4 (by decide) ?_
  refine g_istore (lv' := [(4, .int 0), (3, .int (-1000)), (0, .ref (q 13)), (1, .int z1), (2, .int z2)]) hk dX6_greatestOf_5 (by decide) rfl ?_
  have lp2489 : ∀ (n2490 : Nat) (x2454 : Int32) (x2455 : Int32), (0 ≤ x2454.toInt) → ((-1000) ≤ x2455.toInt) → (z2.toInt + 1 - x2454.toInt < (n2490 : Int)) → (0 < n2490) → (FE (fX6_greatestOf I A z1 z2) (itr_ii (0 : Int32) (bX6_greatestOf_7 z2 I A z1) n2490 x2454 x2455)) → GW κ 5 0 0 (wX q d I A) 7 [(4, .int x2454), (3, .int x2455), (0, .ref (q 13)), (1, .int z1), (2, .int z2)] [] := by
    intro n2490
    induction n2490 with
    | zero =>
      intro x2454 x2455 h2487 h2488 m2491 m2491z hF
      exact absurd m2491z (Nat.lt_irrefl 0)
    | succ n2490 ih2493 =>
      intro x2454 x2455 h2487 h2488 m2491 m2491z hF
      replace hF := FE.itr_ii hF
      refine g_iload hk dX6_greatestOf_7 rfl ?_
      refine g_iload_n hk dX6_greatestOf_9 rfl ?_
      have b2494l := Int32.le_toInt x2454
      have b2494h := Int32.toInt_lt x2454
      have b2495l := Int32.le_toInt z2
      have b2495h := Int32.toInt_lt z2
      refine g_icmp_ge (tgt := 32) (a := x2454.toInt) (b := z2.toInt) hk dX6_greatestOf_10 (by decide) rfl rfl (fun c2496 => ?_) (fun c2496 => ?_)
      · skip
        replace hF := FE.pos hF c2496
        refine g_iload_n hk dX6_greatestOf_32 rfl ?_
        have b2497l := Int32.le_toInt x2455
        have b2497h := Int32.toInt_lt x2455
        exact g_iret hk hR rfl ⟨x2455, (by omega), hF, rfl, rfl⟩ dX6_greatestOf_33
      · skip
        replace hF := FE.neg hF c2496
        refine g_iload_n hk dX6_greatestOf_13 rfl ?_
        refine g_aload_n hk dX6_greatestOf_14 rfl ?_
        refine g_iload_n hk dX6_greatestOf_15 rfl ?_
        refine g_iload hk dX6_greatestOf_16 rfl ?_
        have b2498l := Int32.le_toInt z1
        have b2498h := Int32.toInt_lt z1
        refine g_iadd hk dX6_greatestOf_18 ?_
        refine g_topi (fun y2499 ey2499 => ?_)
        replace hF := FE.lt hF ey2499
        refine g_callV (n := 1) hk (k179_X6_valueAt l D zt q d I A y2499 hIv) (SP.same _) (fun _ h => h) (gi_V (List.mem_cons_of_mem _ (List.mem_append_left _ (List.mem_of_getElem? (i := 0) rfl))) (List.mem_cons_of_mem _ (List.mem_append_left _ (List.mem_of_getElem? (i := 1) rfl))) (List.mem_cons_of_mem _ (List.mem_append_left _ (List.mem_of_getElem? (i := 2) rfl))) (List.mem_cons_of_mem _ (List.mem_append_left _ (List.mem_of_getElem? (i := 3) rfl))) (gi_sub (fun w h => (List.mem_cons_of_mem _ (List.mem_append_right _ (List.mem_append_left _ h)))) zg_k179_X6_valueAt)) rfl rfl rfl (by decide +kernel) ⟨Nat.le_of_ble_eq_true rfl, Nat.le_of_ble_eq_true rfl⟩ 13 rfl rfl rfl rfl (Nat.le_of_ble_eq_true rfl) ⟨Nat.le_of_ble_eq_true rfl, Nat.le_of_ble_eq_true rfl⟩ dX6_greatestOf_19 (fun v ty' w' hp hk' => ?_)
        obtain ⟨y2500, hC, rfl, rfl⟩ := hp
        replace hF := FE.lt hF (fe_s hC)
        show GW κ 5 0 0 (wX q d I A) 22 [(4, .int x2454), (3, .int x2455), (0, .ref (q 13)), (1, .int z1), (2, .int z2)] [.int y2500, .int x2455]
        have b2501l := Int32.le_toInt y2500
        have b2501h := Int32.toInt_lt y2500
        have b2502l := Int32.le_toInt x2455
        have b2502h := Int32.toInt_lt x2455
        refine g_mmax hk (List.mem_cons_of_mem _ (List.mem_append_left _ (List.mem_of_getElem? (i := 4) rfl))) (List.mem_cons_of_mem _ (List.mem_append_left _ (List.mem_of_getElem? (i := 5) rfl))) (List.mem_cons_of_mem _ (List.mem_append_left _ (List.mem_of_getElem? (i := 6) rfl))) (List.mem_cons_of_mem _ (List.mem_append_left _ (List.mem_of_getElem? (i := 7) rfl))) (Nat.le_of_ble_eq_true rfl) (Nat.le_of_ble_eq_true rfl) (Nat.le_of_ble_eq_true rfl) (Nat.le_of_ble_eq_true rfl) dX6_greatestOf_22 ?_
        refine g_topi (fun y2503 ey2503 => ?_)
        replace hF := FE.lt hF ey2503
        have hy2503 := i32_max ey2503
        refine g_istore_n (lv' := [(3, .int y2503), (4, .int x2454), (0, .ref (q 13)), (1, .int z1), (2, .int z2)]) hk dX6_greatestOf_25 (by decide) rfl ?_
        obtain ⟨y2504, ey2504⟩ : ∃ y : Int32, y = x2454 + Int32.ofInt 1 := ⟨_, rfl⟩
        replace hF := FE.lt hF ey2504
        have hy2504 : y2504.toInt = x2454.toInt + 1 := i32_add ey2504 rfl (by decide) (by omega) (by omega)
        refine g_iinc (v := y2504) (lv' := [(4, .int y2504), (3, .int y2503), (0, .ref (q 13)), (1, .int z1), (2, .int z2)]) hk 1 dX6_greatestOf_26 rfl ey2504.symm (by decide) rfl ?_
        refine g_goto (tgt := 7) hk dX6_greatestOf_29 (by decide) ?_
        exact g_lv (List.forall_mem_cons.mpr ⟨List.mem_of_getElem? (i := 0) rfl, (List.forall_mem_cons.mpr ⟨List.mem_of_getElem? (i := 1) rfl, (List.forall_mem_cons.mpr ⟨List.mem_of_getElem? (i := 2) rfl, (List.forall_mem_cons.mpr ⟨List.mem_of_getElem? (i := 3) rfl, (List.forall_mem_cons.mpr ⟨List.mem_of_getElem? (i := 4) rfl, (fun _ h => absurd h List.not_mem_nil)⟩)⟩)⟩)⟩)⟩) (ih2493 y2504 y2503 (by omega) (by omega) (by omega) (by omega) hF)
  have k2506 : (0 : Int32).toInt = 0 := rfl
  have k2507 : ((-1000) : Int32).toInt = (-1000) := rfl
  have b2508 := Int32.le_toInt z2
  have b2509 := Int32.toInt_lt z2
  have n2505a : z2.toInt + 1 - 0 < (FU : Int) := by have := FU_eq; omega
  have n2505b : 0 < FU := by have := FU_eq; omega
  exact lp2489 FU 0 (-1000) (by omega) (by omega) n2505a n2505b hF
noncomputable def fX11_window (I : Nat → Int32) (A : Nat → Nat → Int32) (z1 : Int32) (z2 : Int32) (z3 : Int32) : Int32 := if z2.toInt < 1 then (-1000000) else if fX6_hasWindow I A z1 z2 = 0 then (-1000000) else if z3.toInt = 0 then f_lt (fX6_sumOf I A z1 z2) fun y2379 => y2379 else if z3.toInt = 1 then f_lt (fX6_leastOf I A z1 z2) fun y2451 => y2451 else if z3.toInt = 2 then f_lt (fX6_greatestOf I A z1 z2) fun y2510 => y2510 else if z3.toInt = 3 then f_lt (fX6_sumOf I A z1 z2) fun y2514 => f_lt (fX_floorDiv I A y2514 z2) fun y2515 => y2515 else (-1000000)
def wo_k206_X11_window : List Cond := [Cond.constant RX11 186 (-1000000), Cond.fieldLink RX11 28 "WarpDesk" "series" "LWarpDesk$Series;", Cond.methodLink RX11 183 yX6_hasWindow, Cond.instanceMethod yX6_hasWindow, Cond.selects RX6 yX6_hasWindow yX6_hasWindow, Cond.initialized RX6, Cond.methodLink RX11 187 yX6_sumOf, Cond.instanceMethod yX6_sumOf, Cond.selects RX6 yX6_sumOf yX6_sumOf, Cond.methodLink RX11 190 yX6_leastOf, Cond.instanceMethod yX6_leastOf, Cond.selects RX6 yX6_leastOf yX6_leastOf, Cond.methodLink RX11 193 yX6_greatestOf, Cond.instanceMethod yX6_greatestOf, Cond.selects RX6 yX6_greatestOf yX6_greatestOf, Cond.methodLink RX11 142 yJ9_floorDiv_7cf53, Cond.static yJ9_floorDiv_7cf53, Cond.initialized RJ9]
def wz_k206_X11_window : List Cond := .code yX11_window cX11_window 4 (some .int) :: (wo_k206_X11_window ++ (wsX110 ++ (wz_k207_X6_hasWindow ++ (wz_k208_X6_sumOf ++ (wz_k209_X6_leastOf ++ (wz_k210_X6_greatestOf ++ (wz_k189_J9_floorDiv_7cf53 ++ ([] : List Cond))))))))
theorem zg_k206_X11_window : ∀ w ∈ wz_k206_X11_window, goodWord w = true := zg_cons rfl (zg_app (by decide +kernel) (zg_app zgU_wsX110 (zg_app zg_k207_X6_hasWindow (zg_app zg_k208_X6_sumOf (zg_app zg_k209_X6_leastOf (zg_app zg_k210_X6_greatestOf (zg_app zg_k189_J9_floorDiv_7cf53 zg_nil)))))))
theorem zi_k206_X11_window : ∀ w ∈ wz_k206_X11_window, w ∈ lw_tbl := zi_cons zw_900 (zi_app (zi_cons zw_906 (zi_cons zw_489 (zi_cons zw_901 (zi_cons zw_902 (zi_cons zw_903 (zi_cons zw_109 (zi_cons zw_907 (zi_cons zw_908 (zi_cons zw_909 (zi_cons zw_911 (zi_cons zw_912 (zi_cons zw_913 (zi_cons zw_915 (zi_cons zw_916 (zi_cons zw_917 (zi_cons zw_844 (zi_cons zw_845 (zi_cons zw_120 zi_nil)))))))))))))))))) (zi_app inX11 (zi_app zi_k207_X6_hasWindow (zi_app zi_k208_X6_sumOf (zi_app zi_k209_X6_leastOf (zi_app zi_k210_X6_greatestOf (zi_app zi_k189_J9_floorDiv_7cf53 zi_nil)))))))
set_option maxHeartbeats 4000000 in
set_option maxRecDepth 100000 in
theorem k206_X11_window (l : Launch) (D : va_G) (zt : Nat × Nat × Nat × (Nat → Nat) × (Nat → Nat)) (q : Nat → Nat) (d : Nat → ClassId) (I : Nat → Int32) (A : Nat → Nat → Int32) (z1 : Int32) (z2 : Int32) (z3 : Int32) (hIv : IvX I A) : GM l D zt (tyX d) yX11_window wz_k206_X11_window ({ frames := 3, cells := 0, slots := 0, locals := 66 } : Room) [.ref (q 0), .int z1, .int z2, .int z3] (wX q d I A) (fun v _ w' => ∃ y0 : Int32, FE (fX11_window I A z1 z2 z3) y0 ∧ v = some (.int y0) ∧ w' = wX q d I A) 0 0 := by
  refine GM.of (cc := cX11_window) (maxL := 4) (ret := (some .int)) (own := RX11) (lv := [(0, .ref (q 0)), (1, .int z1), (2, .int z2), (3, .int z3)]) (by decide) rfl rfl (Nat.le_of_ble_eq_true rfl) rfl (fun κ sz hk hR hN => ?_)
  have hin11 : ∀ w ∈ u_ws RX11 TX11 10, w ∈ wz_k206_X11_window := fun w h => (List.mem_cons_of_mem _ (List.mem_append_right _ (List.mem_append_left _ h)))
  have hF : FE (fX11_window I A z1 z2 z3) (fX11_window I A z1 z2 z3) := FE.rf
  refine g_iload_n hk dX11_window_0 rfl ?_
  refine g_iconst (v := 1) hk dX11_window_1 (by decide) ?_
  have b2254l := Int32.le_toInt z2
  have b2254h := Int32.toInt_lt z2
  refine g_icmp_lt (tgt := 17) (a := z2.toInt) (b := 1) hk dX11_window_2 (by decide) rfl rfl (fun c2255 => ?_) (fun c2255 => ?_)
  · skip
    replace hF := FE.pos hF c2255
    refine g_ldc (v := (-1000000)) hk (List.mem_cons_of_mem _ (List.mem_append_left _ (List.mem_of_getElem? (i := 0) rfl))) dX11_window_17 ?_
    exact g_iret hk hR rfl ⟨(-1000000), hF, rfl, rfl⟩ dX11_window_19
  · skip
    replace hF := FE.neg hF c2255
    refine g_aload_n hk dX11_window_5 rfl ?_
    refine gX_r0_2 hk hin11 (List.mem_cons_of_mem _ (List.mem_append_left _ (List.mem_of_getElem? (i := 1) rfl))) dX11_window_6 ?_
    refine g_iload_n hk dX11_window_9 rfl ?_
    refine g_iload_n hk dX11_window_10 rfl ?_
    refine g_callV (n := 2) hk (k207_X6_hasWindow l D zt q d I A z1 z2 hIv) (SP.same _) (fun _ h => h) (gi_V (List.mem_cons_of_mem _ (List.mem_append_left _ (List.mem_of_getElem? (i := 2) rfl))) (List.mem_cons_of_mem _ (List.mem_append_left _ (List.mem_of_getElem? (i := 3) rfl))) (List.mem_cons_of_mem _ (List.mem_append_left _ (List.mem_of_getElem? (i := 4) rfl))) (List.mem_cons_of_mem _ (List.mem_append_left _ (List.mem_of_getElem? (i := 5) rfl))) (gi_sub (fun w h => (List.mem_cons_of_mem _ (List.mem_append_right _ (List.mem_append_right _ (List.mem_append_left _ h))))) zg_k207_X6_hasWindow)) rfl rfl rfl (by decide +kernel) ⟨Nat.le_of_ble_eq_true rfl, Nat.le_of_ble_eq_true rfl⟩ 13 rfl rfl rfl rfl (Nat.le_of_ble_eq_true rfl) ⟨Nat.le_of_ble_eq_true rfl, Nat.le_of_ble_eq_true rfl⟩ dX11_window_11 (fun v ty' w' hp hk' => ?_)
    rcases hp with ⟨hC, rfl, rfl⟩ | ⟨c2303, c2304, c2305, c2306, c2307, c2308, hC, rfl, rfl⟩
    · skip
      replace hF := FE.pos hF hC
      show GW κ 4 0 0 (wX q d I A) 14 [(0, .ref (q 0)), (1, .int z1), (2, .int z2), (3, .int z3)] [.int 0]
      refine g_if_ne (tgt := 20) (a := 0) hk dX11_window_14 (by decide) rfl (fun z9 => absurd z9 (show ¬ ((0 : Int) ≠ (0 : Int)) from by decide)) (fun _ => ?_)
      refine g_ldc (v := (-1000000)) hk (List.mem_cons_of_mem _ (List.mem_append_left _ (List.mem_of_getElem? (i := 0) rfl))) dX11_window_17 ?_
      exact g_iret hk hR rfl ⟨(-1000000), hF, rfl, rfl⟩ dX11_window_19
    · skip
      replace hF := FE.neg hF (fe_ne hC (by decide))
      show GW κ 4 0 0 (wX q d I A) 14 [(0, .ref (q 0)), (1, .int z1), (2, .int z2), (3, .int z3)] [.int 1]
      refine g_if_ne (tgt := 20) (a := 1) hk dX11_window_14 (by decide) rfl (fun _ => ?_) (fun z9 => absurd (show (1 : Int) ≠ (0 : Int) from by decide) z9)
      refine g_iload_n hk dX11_window_20 rfl ?_
      by_cases c2310 : z3.toInt = 0
      · refine g_tabIn (tgt := 52) (a := 0) hk dX11_window_21 c2310 (by decide) (by decide) rfl (by decide) ?_
        replace hF := FE.pos hF c2310
        refine g_aload_n hk dX11_window_52 rfl ?_
        refine gX_r0_2 hk hin11 (List.mem_cons_of_mem _ (List.mem_append_left _ (List.mem_of_getElem? (i := 1) rfl))) dX11_window_53 ?_
        refine g_iload_n hk dX11_window_56 rfl ?_
        refine g_iload_n hk dX11_window_57 rfl ?_
        refine g_callV (n := 2) hk (k208_X6_sumOf l D zt q d I A z1 z2 hIv) (SP.same _) (fun _ h => h) (gi_V (List.mem_cons_of_mem _ (List.mem_append_left _ (List.mem_of_getElem? (i := 6) rfl))) (List.mem_cons_of_mem _ (List.mem_append_left _ (List.mem_of_getElem? (i := 7) rfl))) (List.mem_cons_of_mem _ (List.mem_append_left _ (List.mem_of_getElem? (i := 8) rfl))) (List.mem_cons_of_mem _ (List.mem_append_left _ (List.mem_of_getElem? (i := 5) rfl))) (gi_sub (fun w h => (List.mem_cons_of_mem _ (List.mem_append_right _ (List.mem_append_right _ (List.mem_append_right _ (List.mem_append_left _ h)))))) zg_k208_X6_sumOf)) rfl rfl rfl (by decide +kernel) ⟨Nat.le_of_ble_eq_true rfl, Nat.le_of_ble_eq_true rfl⟩ 13 rfl rfl rfl rfl (Nat.le_of_ble_eq_true rfl) ⟨Nat.le_of_ble_eq_true rfl, Nat.le_of_ble_eq_true rfl⟩ dX11_window_58 (fun v ty' w' hp hk' => ?_)
        obtain ⟨y2379, hC, rfl, rfl⟩ := hp
        replace hF := FE.lt hF (fe_s hC)
        show GW κ 4 0 0 (wX q d I A) 61 [(0, .ref (q 0)), (1, .int z1), (2, .int z2), (3, .int z3)] [.int y2379]
        have b2380l := Int32.le_toInt y2379
        have b2380h := Int32.toInt_lt y2379
        exact g_iret hk hR rfl ⟨y2379, hF, rfl, rfl⟩ dX11_window_61
      replace hF := FE.neg hF c2310
      by_cases c2381 : z3.toInt = 1
      · refine g_tabIn (tgt := 62) (a := 1) hk dX11_window_21 c2381 (by decide) (by decide) rfl (by decide) ?_
        replace hF := FE.pos hF c2381
        refine g_aload_n hk dX11_window_62 rfl ?_
        refine gX_r0_2 hk hin11 (List.mem_cons_of_mem _ (List.mem_append_left _ (List.mem_of_getElem? (i := 1) rfl))) dX11_window_63 ?_
        refine g_iload_n hk dX11_window_66 rfl ?_
        refine g_iload_n hk dX11_window_67 rfl ?_
        refine g_callV (n := 2) hk (k209_X6_leastOf l D zt q d I A z1 z2 hIv) (SP.same _) (fun _ h => h) (gi_V (List.mem_cons_of_mem _ (List.mem_append_left _ (List.mem_of_getElem? (i := 9) rfl))) (List.mem_cons_of_mem _ (List.mem_append_left _ (List.mem_of_getElem? (i := 10) rfl))) (List.mem_cons_of_mem _ (List.mem_append_left _ (List.mem_of_getElem? (i := 11) rfl))) (List.mem_cons_of_mem _ (List.mem_append_left _ (List.mem_of_getElem? (i := 5) rfl))) (gi_sub (fun w h => (List.mem_cons_of_mem _ (List.mem_append_right _ (List.mem_append_right _ (List.mem_append_right _ (List.mem_append_right _ (List.mem_append_left _ h))))))) zg_k209_X6_leastOf)) rfl rfl rfl (by decide +kernel) ⟨Nat.le_of_ble_eq_true rfl, Nat.le_of_ble_eq_true rfl⟩ 13 rfl rfl rfl rfl (Nat.le_of_ble_eq_true rfl) ⟨Nat.le_of_ble_eq_true rfl, Nat.le_of_ble_eq_true rfl⟩ dX11_window_68 (fun v ty' w' hp hk' => ?_)
        obtain ⟨y2451, hC, rfl, rfl⟩ := hp
        replace hF := FE.lt hF (fe_s hC)
        show GW κ 4 0 0 (wX q d I A) 71 [(0, .ref (q 0)), (1, .int z1), (2, .int z2), (3, .int z3)] [.int y2451]
        have b2452l := Int32.le_toInt y2451
        have b2452h := Int32.toInt_lt y2451
        exact g_iret hk hR rfl ⟨y2451, hF, rfl, rfl⟩ dX11_window_71
      replace hF := FE.neg hF c2381
      by_cases c2453 : z3.toInt = 2
      · refine g_tabIn (tgt := 72) (a := 2) hk dX11_window_21 c2453 (by decide) (by decide) rfl (by decide) ?_
        replace hF := FE.pos hF c2453
        refine g_aload_n hk dX11_window_72 rfl ?_
        refine gX_r0_2 hk hin11 (List.mem_cons_of_mem _ (List.mem_append_left _ (List.mem_of_getElem? (i := 1) rfl))) dX11_window_73 ?_
        refine g_iload_n hk dX11_window_76 rfl ?_
        refine g_iload_n hk dX11_window_77 rfl ?_
        refine g_callV (n := 2) hk (k210_X6_greatestOf l D zt q d I A z1 z2 hIv) (SP.same _) (fun _ h => h) (gi_V (List.mem_cons_of_mem _ (List.mem_append_left _ (List.mem_of_getElem? (i := 12) rfl))) (List.mem_cons_of_mem _ (List.mem_append_left _ (List.mem_of_getElem? (i := 13) rfl))) (List.mem_cons_of_mem _ (List.mem_append_left _ (List.mem_of_getElem? (i := 14) rfl))) (List.mem_cons_of_mem _ (List.mem_append_left _ (List.mem_of_getElem? (i := 5) rfl))) (gi_sub (fun w h => (List.mem_cons_of_mem _ (List.mem_append_right _ (List.mem_append_right _ (List.mem_append_right _ (List.mem_append_right _ (List.mem_append_right _ (List.mem_append_left _ h)))))))) zg_k210_X6_greatestOf)) rfl rfl rfl (by decide +kernel) ⟨Nat.le_of_ble_eq_true rfl, Nat.le_of_ble_eq_true rfl⟩ 13 rfl rfl rfl rfl (Nat.le_of_ble_eq_true rfl) ⟨Nat.le_of_ble_eq_true rfl, Nat.le_of_ble_eq_true rfl⟩ dX11_window_78 (fun v ty' w' hp hk' => ?_)
        obtain ⟨y2510, c2511, hC, rfl, rfl⟩ := hp
        replace hF := FE.lt hF (fe_s hC)
        show GW κ 4 0 0 (wX q d I A) 81 [(0, .ref (q 0)), (1, .int z1), (2, .int z2), (3, .int z3)] [.int y2510]
        have b2512l := Int32.le_toInt y2510
        have b2512h := Int32.toInt_lt y2510
        exact g_iret hk hR rfl ⟨y2510, hF, rfl, rfl⟩ dX11_window_81
      replace hF := FE.neg hF c2453
      by_cases c2513 : z3.toInt = 3
      · refine g_tabIn (tgt := 82) (a := 3) hk dX11_window_21 c2513 (by decide) (by decide) rfl (by decide) ?_
        replace hF := FE.pos hF c2513
        refine g_aload_n hk dX11_window_82 rfl ?_
        refine gX_r0_2 hk hin11 (List.mem_cons_of_mem _ (List.mem_append_left _ (List.mem_of_getElem? (i := 1) rfl))) dX11_window_83 ?_
        refine g_iload_n hk dX11_window_86 rfl ?_
        refine g_iload_n hk dX11_window_87 rfl ?_
        refine g_callV (n := 2) hk (k208_X6_sumOf l D zt q d I A z1 z2 hIv) (SP.same _) (fun _ h => h) (gi_V (List.mem_cons_of_mem _ (List.mem_append_left _ (List.mem_of_getElem? (i := 6) rfl))) (List.mem_cons_of_mem _ (List.mem_append_left _ (List.mem_of_getElem? (i := 7) rfl))) (List.mem_cons_of_mem _ (List.mem_append_left _ (List.mem_of_getElem? (i := 8) rfl))) (List.mem_cons_of_mem _ (List.mem_append_left _ (List.mem_of_getElem? (i := 5) rfl))) (gi_sub (fun w h => (List.mem_cons_of_mem _ (List.mem_append_right _ (List.mem_append_right _ (List.mem_append_right _ (List.mem_append_left _ h)))))) zg_k208_X6_sumOf)) rfl rfl rfl (by decide +kernel) ⟨Nat.le_of_ble_eq_true rfl, Nat.le_of_ble_eq_true rfl⟩ 13 rfl rfl rfl rfl (Nat.le_of_ble_eq_true rfl) ⟨Nat.le_of_ble_eq_true rfl, Nat.le_of_ble_eq_true rfl⟩ dX11_window_88 (fun v ty' w' hp hk' => ?_)
        obtain ⟨y2514, hC, rfl, rfl⟩ := hp
        replace hF := FE.lt hF (fe_s hC)
        show GW κ 4 0 0 (wX q d I A) 91 [(0, .ref (q 0)), (1, .int z1), (2, .int z2), (3, .int z3)] [.int y2514]
        refine g_iload_n hk dX11_window_91 rfl ?_
        refine g_callS (n := 2) hk (k189_J9_floorDiv_7cf53 l D zt q d I A y2514 z2 hIv (by omega)) (SP.same _) (fun _ h => h) (gi_S (List.mem_cons_of_mem _ (List.mem_append_left _ (List.mem_of_getElem? (i := 15) rfl))) (List.mem_cons_of_mem _ (List.mem_append_left _ (List.mem_of_getElem? (i := 16) rfl))) (List.mem_cons_of_mem _ (List.mem_append_left _ (List.mem_of_getElem? (i := 17) rfl))) (gi_sub (fun w h => (List.mem_cons_of_mem _ (List.mem_append_right _ (List.mem_append_right _ (List.mem_append_right _ (List.mem_append_right _ (List.mem_append_right _ (List.mem_append_right _ (List.mem_append_left _ h))))))))) zg_k189_J9_floorDiv_7cf53)) rfl rfl rfl (by decide +kernel) ⟨Nat.le_of_ble_eq_true rfl, Nat.le_of_ble_eq_true rfl⟩ rfl rfl (Nat.le_of_ble_eq_true rfl) ⟨Nat.le_of_ble_eq_true rfl, Nat.le_of_ble_eq_true rfl⟩ dX11_window_92 (fun v ty' w' hp hk' => ?_)
        obtain ⟨y2515, hC, rfl, rfl⟩ := hp
        replace hF := FE.lt hF (fe_s hC)
        show GW κ 4 0 0 (wX q d I A) 95 [(0, .ref (q 0)), (1, .int z1), (2, .int z2), (3, .int z3)] [.int y2515]
        have b2516l := Int32.le_toInt y2515
        have b2516h := Int32.toInt_lt y2515
        exact g_iret hk hR rfl ⟨y2515, hF, rfl, rfl⟩ dX11_window_95
      replace hF := FE.neg hF c2513
      refine g_tabOut (tgt := 96) (a := z3.toInt) hk dX11_window_21 rfl (by omega) (by decide) ?_
      refine g_ldc (v := (-1000000)) hk (List.mem_cons_of_mem _ (List.mem_append_left _ (List.mem_of_getElem? (i := 0) rfl))) dX11_window_96 ?_
      exact g_iret hk hR rfl ⟨(-1000000), hF, rfl, rfl⟩ dX11_window_98
