noncomputable def bX4_copyQuery_2_2 (z1 : Int32) : (Int32 → (Nat → Int32) → (Nat → Nat → Int32) → (Int32 × (Nat → Int32) × (Nat → Nat → Int32))) → Int32 → (Nat → Int32) → (Nat → Nat → Int32) → (Int32 × (Nat → Int32) × (Nat → Nat → Int32)) := fun kk4909 x4845 I4849 A4849 => if (fX4_lengthOf_2 I4849 A4849 z1).2 = 0 then (0, I4849, A4849) else f_lt (fX4_lengthOf_2 I4849 A4849 z1).1 fun y4918 => if y4918.toInt ≤ x4845.toInt then (0, I4849, A4849) else f_lt (fX4_valueAt_2 I4849 A4849 z1 x4845) fun y4922 => f_lt (x4845 + Int32.ofInt 1) fun y4923 => kk4909 y4923 I4849 (up3 A4849 22 (x4845.toNatClampNeg) y4922)
noncomputable def fX4_copyQuery_2 (I : Nat → Int32) (A : Nat → Nat → Int32) (z1 : Int32) : Int32 × (Nat → Int32) × (Nat → Nat → Int32) := itr_iIA dfX (bX4_copyQuery_2_2 z1) FU 0 I A
set_option maxHeartbeats 4000000 in
set_option maxRecDepth 100000 in
theorem k257_X4_copyQuery (l : Launch) (D : va_G) (zt : Nat × Nat × Nat × (Nat → Nat) × (Nat → Nat)) (q : Nat → Nat) (d : Nat → ClassId) (I : Nat → Int32) (A : Nat → Nat → Int32) (z1 : Int32) (hIv : IvX I A) : GM l D zt (tyX d) yX4_copyQuery wz_k225_X4_copyQuery ({ frames := 3, cells := 0, slots := 0, locals := 64 } : Room) [.ref (q 15), .int z1, .ref (q 40)] (wX q d I A) (fun v _ w' => ∃ (I' : Nat → Int32) (A' : Nat → Nat → Int32), Md [] I I' ∧ Md [22] A A' ∧ IvX I' A' ∧ FE (fX4_copyQuery_2 I A z1) (0, I', A') ∧ v = none ∧ w' = wX q d I' A') 0 0 := by
  refine GM.of (cc := cX4_copyQuery) (maxL := 4) (ret := none) (own := RX4) (lv := [(0, .ref (q 15)), (1, .int z1), (2, .ref (q 40))]) (by decide) rfl rfl (Nat.le_of_ble_eq_true rfl) rfl (fun κ sz hk hR hN => ?_)
  have hF : FE (fX4_copyQuery_2 I A z1) (fX4_copyQuery_2 I A z1) := FE.rf
  refine g_iconst (v := 0) hk dX4_copyQuery_0 (by decide) ?_
  refine g_istore_n (lv' := [(3, .int 0), (0, .ref (q 15)), (1, .int z1), (2, .ref (q 40))]) hk dX4_copyQuery_1 (by decide) rfl ?_
  have lp4906 : ∀ (n4907 : Nat) (x4845 : Int32) (I4849 : Nat → Int32) (A4849 : Nat → Nat → Int32), (Md [] I I4849) → (Md [22] A A4849) → (IvX I4849 A4849) → (0 ≤ x4845.toInt) → (x4845.toInt ≤ 16) → (17 - x4845.toInt < (n4907 : Int)) → (0 < n4907) → (FE (fX4_copyQuery_2 I A z1) (itr_iIA dfX (bX4_copyQuery_2_2 z1) n4907 x4845 I4849 A4849)) → GW κ 4 0 0 (wX q d I4849 A4849) 2 [(3, .int x4845), (0, .ref (q 15)), (1, .int z1), (2, .ref (q 40))] [] := by
    intro n4907
    induction n4907 with
    | zero =>
      intro x4845 I4849 A4849 hI4849 hA4849 hV4849 h4904 h4905 m4908 m4908z hF
      exact absurd m4908z (Nat.lt_irrefl 0)
    | succ n4907 ih4910 =>
      intro x4845 I4849 A4849 hI4849 hA4849 hV4849 h4904 h4905 m4908 m4908z hF
      replace hF := FE.itr_iIA hF
      refine g_iload_n hk dX4_copyQuery_2 rfl ?_
      refine g_aload_n hk dX4_copyQuery_3 rfl ?_
      refine g_iload_n hk dX4_copyQuery_4 rfl ?_
      refine g_callV (n := 1) hk (k182_X4_lengthOf l D zt q d I4849 A4849 z1 hV4849) (SP.same _) (fun _ h => h) (gi_V (List.mem_cons_of_mem _ (List.mem_append_left _ (List.mem_of_getElem? (i := 0) rfl))) (List.mem_cons_of_mem _ (List.mem_append_left _ (List.mem_of_getElem? (i := 1) rfl))) (List.mem_cons_of_mem _ (List.mem_append_left _ (List.mem_of_getElem? (i := 2) rfl))) (List.mem_cons_of_mem _ (List.mem_append_left _ (List.mem_of_getElem? (i := 3) rfl))) (gi_sub (fun w h => (List.mem_cons_of_mem _ (List.mem_append_right _ (List.mem_append_left _ h)))) zg_k165_X4_lengthOf)) rfl rfl rfl (by decide +kernel) ⟨Nat.le_of_ble_eq_true rfl, Nat.le_of_ble_eq_true rfl⟩ 15 rfl rfl rfl rfl (Nat.le_of_ble_eq_true rfl) ⟨Nat.le_of_ble_eq_true rfl, Nat.le_of_ble_eq_true rfl⟩ dX4_copyQuery_5 (fun v ty' w' hp hk' => ?_)
      rcases hp with ⟨hC, rfl, rfl⟩ | ⟨y4918, c4912, c4913, c4914, c4915, c4916, c4917, c4919, c4920, hC, rfl, rfl⟩
      · skip
        replace hF := FE.pos hF (fe_2 hC)
        show GW κ 4 0 0 (wX q d I4849 A4849) 8 [(3, .int x4845), (0, .ref (q 15)), (1, .int z1), (2, .ref (q 40))] [.int 0, .int x4845]
        refine g_icmp_ge (tgt := 32) (a := x4845.toInt) (b := 0) hk dX4_copyQuery_8 (by decide) rfl rfl (fun _ => ?_) (fun z9 => absurd (show 0 ≤ x4845.toInt from by omega) z9)
        exact g_vret hk hR ⟨I4849, A4849, (show Md [] I I4849 from (Md.tr Md.rf hI4849 rfl)), (show Md [22] A A4849 from (Md.tr Md.rf hA4849 rfl)), hV4849, hF, rfl, rfl⟩ dX4_copyQuery_32
      · skip
        replace hF := FE.neg hF (fe_ne2 hC (by decide))
        replace hF := FE.lt hF (fe_1 hC)
        show GW κ 4 0 0 (wX q d I4849 A4849) 8 [(3, .int x4845), (0, .ref (q 15)), (1, .int z1), (2, .ref (q 40))] [.int y4918, .int x4845]
        refine g_icmp_ge (tgt := 32) (a := x4845.toInt) (b := y4918.toInt) hk dX4_copyQuery_8 (by decide) rfl rfl (fun c4921 => ?_) (fun c4921 => ?_)
        · skip
          replace hF := FE.pos hF c4921
          exact g_vret hk hR ⟨I4849, A4849, (show Md [] I I4849 from (Md.tr Md.rf hI4849 rfl)), (show Md [22] A A4849 from (Md.tr Md.rf hA4849 rfl)), hV4849, hF, rfl, rfl⟩ dX4_copyQuery_32
        · skip
          replace hF := FE.neg hF c4921
          refine g_iload_n hk dX4_copyQuery_11 rfl ?_
          refine g_aload_n hk dX4_copyQuery_12 rfl ?_
          refine nX_22 hk dX4_copyQuery_13 ?_
          refine g_icmp_ge (tgt := 32) (a := x4845.toInt) (b := 16) hk dX4_copyQuery_14 (by decide) rfl rfl (fun z9 => absurd z9 (show ¬ (16 ≤ x4845.toInt) from by omega)) (fun _ => ?_)
          refine g_aload_n hk dX4_copyQuery_17 rfl ?_
          refine g_iload_n hk dX4_copyQuery_18 rfl ?_
          refine g_aload_n hk dX4_copyQuery_19 rfl ?_
          refine g_iload_n hk dX4_copyQuery_20 rfl ?_
          refine g_iload_n hk dX4_copyQuery_21 rfl ?_
          refine g_callV (n := 2) hk (k181_X4_valueAt l D zt q d I4849 A4849 z1 x4845 hV4849) (SP.same _) (fun _ h => h) (gi_V (List.mem_cons_of_mem _ (List.mem_append_left _ (List.mem_of_getElem? (i := 4) rfl))) (List.mem_cons_of_mem _ (List.mem_append_left _ (List.mem_of_getElem? (i := 5) rfl))) (List.mem_cons_of_mem _ (List.mem_append_left _ (List.mem_of_getElem? (i := 6) rfl))) (List.mem_cons_of_mem _ (List.mem_append_left _ (List.mem_of_getElem? (i := 3) rfl))) (gi_sub (fun w h => (List.mem_cons_of_mem _ (List.mem_append_right _ (List.mem_append_right _ (List.mem_append_left _ h))))) zg_k166_X4_valueAt)) rfl rfl rfl (by decide +kernel) ⟨Nat.le_of_ble_eq_true rfl, Nat.le_of_ble_eq_true rfl⟩ 15 rfl rfl rfl rfl (Nat.le_of_ble_eq_true rfl) ⟨Nat.le_of_ble_eq_true rfl, Nat.le_of_ble_eq_true rfl⟩ dX4_copyQuery_22 (fun v ty' w' hp hk' => ?_)
          obtain ⟨y4922, hC, rfl, rfl⟩ := hp
          replace hF := FE.lt hF (fe_s hC)
          show GW κ 4 0 0 (wX q d I4849 A4849) 25 [(3, .int x4845), (0, .ref (q 15)), (1, .int z1), (2, .ref (q 40))] [.int y4922, .int x4845, .ref (q 40)]
          refine sX_22 (j := x4845.toNatClampNeg) hk (vp_in_iff.mpr ⟨by omega, by omega⟩) rfl dX4_copyQuery_25 ?_
          obtain ⟨y4923, ey4923⟩ : ∃ y : Int32, y = x4845 + Int32.ofInt 1 := ⟨_, rfl⟩
          replace hF := FE.lt hF ey4923
          have hy4923 : y4923.toInt = x4845.toInt + 1 := i32_add ey4923 rfl (by decide) (by omega) (by omega)
          refine g_iinc (v := y4923) (lv' := [(3, .int y4923), (0, .ref (q 15)), (1, .int z1), (2, .ref (q 40))]) hk 0 dX4_copyQuery_26 rfl ey4923.symm (by decide) rfl ?_
          refine g_goto (tgt := 2) hk dX4_copyQuery_29 (by decide) ?_
          exact g_lv (List.forall_mem_cons.mpr ⟨List.mem_of_getElem? (i := 0) rfl, (List.forall_mem_cons.mpr ⟨List.mem_of_getElem? (i := 1) rfl, (List.forall_mem_cons.mpr ⟨List.mem_of_getElem? (i := 2) rfl, (List.forall_mem_cons.mpr ⟨List.mem_of_getElem? (i := 3) rfl, (fun _ h => absurd h List.not_mem_nil)⟩)⟩)⟩)⟩) (ih4910 y4923 I4849 (up3 A4849 22 (x4845.toNatClampNeg) y4922) (show Md [] I I4849 from Md.tr hI4849 (show Md [] I4849 I4849 from Md.rf) rfl) (show Md [22] A (up3 A4849 22 (x4845.toNatClampNeg) y4922) from Md.tr hA4849 (show Md [22] A4849 (up3 A4849 22 (x4845.toNatClampNeg) y4922) from (Md.up3 Md.rf rfl)) rfl) ⟨(IvX_f0 (I := I4849) (A := A4849) hV4849), (IvX_f18 (I := I4849) (A := A4849) hV4849), (IvX_f30 (I := I4849) (A := A4849) hV4849), (IvX_f31 (I := I4849) (A := A4849) hV4849), (IvX_a4 (I := I4849) (A := A4849) hV4849), (IvX_a9 (I := I4849) (A := A4849) hV4849), trivial⟩ (by omega) (by omega) (by omega) (by omega) hF)
  have k4925 : (0 : Int32).toInt = 0 := rfl
  have n4924a : 17 - 0 < (FU : Int) := by have := FU_eq; omega
  have n4924b : 0 < FU := by have := FU_eq; omega
  exact lp4906 FU 0 I A Md.rf Md.rf hIv (by omega) (by omega) n4924a n4924b hF
noncomputable def fX0_laySecondQuery (I : Nat → Int32) (A : Nat → Nat → Int32) (z1 : Int32) : Int32 × (Nat → Int32) × (Nat → Nat → Int32) := f_bdX (fX4_copyQuery_2 I A z1) fun _ I4927 A4927 => f_lt (fX7_valueOf_2 I4927 A4927 1) fun y4929 => f_bdX (fX2_bringToLevel_2 I4927 A4927 y4929) fun _ I4931 A4931 => (0, I4931, A4931)
def wo_k256_X0_laySecondQuery : List Cond := [Cond.fieldLink RX0 22 "WarpDesk$Bench" "queries" "LWarpDesk$Queries;", Cond.fieldLink RX0 12 "WarpDesk$Bench" "fit" "LWarpDesk$Fit;", Cond.fieldLink RX0 88 "WarpDesk$Fit" "right" "[I", Cond.methodLink RX0 69 yX4_copyQuery, Cond.instanceMethod yX4_copyQuery, Cond.selects RX4 yX4_copyQuery yX4_copyQuery, Cond.initialized RX4, Cond.fieldLink RX0 26 "WarpDesk$Bench" "settings" "LWarpDesk$Settings;", Cond.methodLink RX0 49 yX7_valueOf, Cond.instanceMethod yX7_valueOf, Cond.selects RX7 yX7_valueOf yX7_valueOf, Cond.initialized RX7, Cond.methodLink RX0 73 yX2_bringToLevel, Cond.instanceMethod yX2_bringToLevel, Cond.selects RX2 yX2_bringToLevel yX2_bringToLevel, Cond.initialized RX2]
def wz_k256_X0_laySecondQuery : List Cond := .code yX0_laySecondQuery cX0_laySecondQuery 2 none :: (wo_k256_X0_laySecondQuery ++ (wsX00 ++ (wsX20 ++ (wz_k225_X4_copyQuery ++ (wz_k174_X7_valueOf ++ (wz_k217_X2_bringToLevel ++ ([] : List Cond)))))))
theorem zg_k256_X0_laySecondQuery : ∀ w ∈ wz_k256_X0_laySecondQuery, goodWord w = true := zg_cons rfl (zg_app (by decide +kernel) (zg_app zgU_wsX00 (zg_app zgU_wsX20 (zg_app zg_k225_X4_copyQuery (zg_app zg_k174_X7_valueOf (zg_app zg_k217_X2_bringToLevel zg_nil))))))
theorem zi_k256_X0_laySecondQuery : ∀ w ∈ wz_k256_X0_laySecondQuery, w ∈ lw_tbl := zi_cons zw_1092 (zi_app (zi_cons zw_376 (zi_cons zw_380 (zi_cons zw_338 (zi_cons zw_984 (zi_cons zw_985 (zi_cons zw_986 (zi_cons zw_108 (zi_cons zw_378 (zi_cons zw_933 (zi_cons zw_786 (zi_cons zw_787 (zi_cons zw_107 (zi_cons zw_948 (zi_cons zw_949 (zi_cons zw_950 (zi_cons zw_112 zi_nil)))))))))))))))) (zi_app inX0 (zi_app inX2 (zi_app zi_k225_X4_copyQuery (zi_app zi_k174_X7_valueOf (zi_app zi_k217_X2_bringToLevel zi_nil))))))
set_option maxHeartbeats 4000000 in
set_option maxRecDepth 100000 in
theorem k256_X0_laySecondQuery (l : Launch) (D : va_G) (zt : Nat × Nat × Nat × (Nat → Nat) × (Nat → Nat)) (q : Nat → Nat) (d : Nat → ClassId) (I : Nat → Int32) (A : Nat → Nat → Int32) (z1 : Int32) (hIv : IvX I A) : GM l D zt (tyX d) yX0_laySecondQuery wz_k256_X0_laySecondQuery ({ frames := 4, cells := 0, slots := 0, locals := 87 } : Room) [.ref (q 37), .int z1] (wX q d I A) (fun v _ w' => ∃ (I' : Nat → Int32) (A' : Nat → Nat → Int32), Md [] I I' ∧ Md [22] A A' ∧ IvX I' A' ∧ FE (fX0_laySecondQuery I A z1) (0, I', A') ∧ v = none ∧ w' = wX q d I' A') 0 0 := by
  refine GM.of (cc := cX0_laySecondQuery) (maxL := 2) (ret := none) (own := RX0) (lv := [(0, .ref (q 37)), (1, .int z1)]) (by decide) rfl rfl (Nat.le_of_ble_eq_true rfl) rfl (fun κ sz hk hR hN => ?_)
  have hin0 : ∀ w ∈ u_ws RX0 TX0 5, w ∈ wz_k256_X0_laySecondQuery := fun w h => (List.mem_cons_of_mem _ (List.mem_append_right _ (List.mem_append_left _ h)))
  have hin2 : ∀ w ∈ u_ws RX2 TX2 10, w ∈ wz_k256_X0_laySecondQuery := fun w h => (List.mem_cons_of_mem _ (List.mem_append_right _ (List.mem_append_right _ (List.mem_append_left _ h))))
  have hF : FE (fX0_laySecondQuery I A z1) (fX0_laySecondQuery I A z1) := FE.rf
  refine g_aload_n hk dX0_laySecondQuery_0 rfl ?_
  refine gX_r37_1 hk hin0 (List.mem_cons_of_mem _ (List.mem_append_left _ (List.mem_of_getElem? (i := 0) rfl))) dX0_laySecondQuery_1 ?_
  refine g_iload_n hk dX0_laySecondQuery_4 rfl ?_
  refine g_aload_n hk dX0_laySecondQuery_5 rfl ?_
  refine gX_r37_3 hk hin0 (List.mem_cons_of_mem _ (List.mem_append_left _ (List.mem_of_getElem? (i := 1) rfl))) dX0_laySecondQuery_6 ?_
  refine gX_r38_1 hk hin2 (List.mem_cons_of_mem _ (List.mem_append_left _ (List.mem_of_getElem? (i := 2) rfl))) dX0_laySecondQuery_9 ?_
  refine g_callV (n := 2) hk (k257_X4_copyQuery l D zt q d I A z1 hIv) (SP.same _) (fun _ h => h) (gi_V (List.mem_cons_of_mem _ (List.mem_append_left _ (List.mem_of_getElem? (i := 3) rfl))) (List.mem_cons_of_mem _ (List.mem_append_left _ (List.mem_of_getElem? (i := 4) rfl))) (List.mem_cons_of_mem _ (List.mem_append_left _ (List.mem_of_getElem? (i := 5) rfl))) (List.mem_cons_of_mem _ (List.mem_append_left _ (List.mem_of_getElem? (i := 6) rfl))) (gi_sub (fun w h => (List.mem_cons_of_mem _ (List.mem_append_right _ (List.mem_append_right _ (List.mem_append_right _ (List.mem_append_left _ h)))))) zg_k225_X4_copyQuery)) rfl rfl rfl (by decide +kernel) ⟨Nat.le_of_ble_eq_true rfl, Nat.le_of_ble_eq_true rfl⟩ 15 rfl rfl rfl rfl (Nat.le_of_ble_eq_true rfl) ⟨Nat.le_of_ble_eq_true rfl, Nat.le_of_ble_eq_true rfl⟩ dX0_laySecondQuery_12 (fun v ty' w' hp hk' => ?_)
  obtain ⟨I4927, A4927, hI4927, hA4927, hV4927, hC, rfl, rfl⟩ := hp
  replace hF := FE.bdX hF hC
  show GW κ 2 0 0 (wX q d I4927 A4927) 15 [(0, .ref (q 37)), (1, .int z1)] []
  refine g_aload_n hk dX0_laySecondQuery_15 rfl ?_
  refine gX_r37_3 hk hin0 (List.mem_cons_of_mem _ (List.mem_append_left _ (List.mem_of_getElem? (i := 1) rfl))) dX0_laySecondQuery_16 ?_
  refine g_aload_n hk dX0_laySecondQuery_19 rfl ?_
  refine gX_r37_3 hk hin0 (List.mem_cons_of_mem _ (List.mem_append_left _ (List.mem_of_getElem? (i := 1) rfl))) dX0_laySecondQuery_20 ?_
  refine gX_r38_1 hk hin2 (List.mem_cons_of_mem _ (List.mem_append_left _ (List.mem_of_getElem? (i := 2) rfl))) dX0_laySecondQuery_23 ?_
  refine g_aload_n hk dX0_laySecondQuery_26 rfl ?_
  refine gX_r37_2 hk hin0 (List.mem_cons_of_mem _ (List.mem_append_left _ (List.mem_of_getElem? (i := 7) rfl))) dX0_laySecondQuery_27 ?_
  refine g_iconst (v := 1) hk dX0_laySecondQuery_30 (by decide) ?_
  have k4928 : (1 : Int32).toInt = 1 := rfl
  refine g_callV (n := 1) hk (k194_X7_valueOf l D zt q d I4927 A4927 1 hV4927) (SP.same _) (fun _ h => h) (gi_V (List.mem_cons_of_mem _ (List.mem_append_left _ (List.mem_of_getElem? (i := 8) rfl))) (List.mem_cons_of_mem _ (List.mem_append_left _ (List.mem_of_getElem? (i := 9) rfl))) (List.mem_cons_of_mem _ (List.mem_append_left _ (List.mem_of_getElem? (i := 10) rfl))) (List.mem_cons_of_mem _ (List.mem_append_left _ (List.mem_of_getElem? (i := 11) rfl))) (gi_sub (fun w h => (List.mem_cons_of_mem _ (List.mem_append_right _ (List.mem_append_right _ (List.mem_append_right _ (List.mem_append_right _ (List.mem_append_left _ h))))))) zg_k174_X7_valueOf)) rfl rfl rfl (by decide +kernel) ⟨Nat.le_of_ble_eq_true rfl, Nat.le_of_ble_eq_true rfl⟩ 18 rfl rfl rfl rfl (Nat.le_of_ble_eq_true rfl) ⟨Nat.le_of_ble_eq_true rfl, Nat.le_of_ble_eq_true rfl⟩ dX0_laySecondQuery_31 (fun v ty' w' hp hk' => ?_)
  obtain ⟨y4929, hC, rfl, rfl⟩ := hp
  replace hF := FE.lt hF (fe_s hC)
  show GW κ 2 0 0 (wX q d I4927 A4927) 34 [(0, .ref (q 37)), (1, .int z1)] [.int y4929, .ref (q 40), .ref (q 38)]
  refine g_callV (n := 2) hk (k228_X2_bringToLevel l D zt q d I4927 A4927 y4929 hV4927) (SP.same _) (fun _ h => h) (gi_V (List.mem_cons_of_mem _ (List.mem_append_left _ (List.mem_of_getElem? (i := 12) rfl))) (List.mem_cons_of_mem _ (List.mem_append_left _ (List.mem_of_getElem? (i := 13) rfl))) (List.mem_cons_of_mem _ (List.mem_append_left _ (List.mem_of_getElem? (i := 14) rfl))) (List.mem_cons_of_mem _ (List.mem_append_left _ (List.mem_of_getElem? (i := 15) rfl))) (gi_sub (fun w h => (List.mem_cons_of_mem _ (List.mem_append_right _ (List.mem_append_right _ (List.mem_append_right _ (List.mem_append_right _ (List.mem_append_right _ (List.mem_append_left _ h)))))))) zg_k217_X2_bringToLevel)) rfl rfl rfl (by decide +kernel) ⟨Nat.le_of_ble_eq_true rfl, Nat.le_of_ble_eq_true rfl⟩ 38 rfl rfl rfl rfl (Nat.le_of_ble_eq_true rfl) ⟨Nat.le_of_ble_eq_true rfl, Nat.le_of_ble_eq_true rfl⟩ dX0_laySecondQuery_34 (fun v ty' w' hp hk' => ?_)
  obtain ⟨I4931, A4931, hI4931, hA4931, hV4931, hC, rfl, rfl⟩ := hp
  replace hF := FE.bdX hF hC
  show GW κ 2 0 0 (wX q d I4931 A4931) 37 [(0, .ref (q 37)), (1, .int z1)] []
  exact g_vret hk hR ⟨I4931, A4931, (show Md [] I I4931 from (Md.tr (Md.tr Md.rf hI4927 rfl) hI4931 rfl)), (show Md [22] A A4931 from (Md.tr (Md.tr Md.rf hA4927 rfl) hA4931 rfl)), hV4931, hF, rfl, rfl⟩ dX0_laySecondQuery_37
noncomputable def fX11_alike (I : Nat → Int32) (A : Nat → Nat → Int32) (z1 : Int32) (z2 : Int32) : Int32 × (Nat → Int32) × (Nat → Nat → Int32) := if fX4_has_2 I A z1 = 0 then ((-1), I, A) else if fX4_has_2 I A z2 = 0 then ((-1), I, A) else if (fX4_lengthOf_2 I A z1).2 = 0 then if (fX4_lengthOf_2 I A z2).2 = 0 then f_lt (fX7_valueOf_2 I A 0) fun y4842 => f_bdX (fX0_openQuery I A z1 y4842) fun _ I4844 A4844 => f_bdX (fX0_laySecondQuery I4844 A4844 z2) fun _ I4933 A4933 => f_bdX (fX2_wholeDistance I4933 A4933) fun y4934 I4935 A4935 => (y4934, I4935, A4935) else f_lt (fX4_lengthOf_2 I A z2).1 fun y4838 => if 0 = y4838.toInt then f_lt (fX7_valueOf_2 I A 0) fun y4939 => f_bdX (fX0_openQuery I A z1 y4939) fun _ I4941 A4941 => f_bdX (fX0_laySecondQuery I4941 A4941 z2) fun _ I4943 A4943 => f_bdX (fX2_wholeDistance I4943 A4943) fun y4944 I4945 A4945 => (y4944, I4945, A4945) else ((-2), I, A) else f_lt (fX4_lengthOf_2 I A z1).1 fun y4828 => if (fX4_lengthOf_2 I A z2).2 = 0 then if y4828.toInt = 0 then f_lt (fX7_valueOf_2 I A 0) fun y4959 => f_bdX (fX0_openQuery I A z1 y4959) fun _ I4961 A4961 => f_bdX (fX0_laySecondQuery I4961 A4961 z2) fun _ I4963 A4963 => f_bdX (fX2_wholeDistance I4963 A4963) fun y4964 I4965 A4965 => (y4964, I4965, A4965) else ((-2), I, A) else f_lt (fX4_lengthOf_2 I A z2).1 fun y4954 => if y4828.toInt = y4954.toInt then f_lt (fX7_valueOf_2 I A 0) fun y4969 => f_bdX (fX0_openQuery I A z1 y4969) fun _ I4971 A4971 => f_bdX (fX0_laySecondQuery I4971 A4971 z2) fun _ I4973 A4973 => f_bdX (fX2_wholeDistance I4973 A4973) fun y4974 I4975 A4975 => (y4974, I4975, A4975) else ((-2), I, A)
def wo_k255_X11_alike : List Cond := [Cond.fieldLink RX11 35 "WarpDesk" "queries" "LWarpDesk$Queries;", Cond.methodLink RX11 251 yX4_has, Cond.instanceMethod yX4_has, Cond.selects RX4 yX4_has yX4_has, Cond.initialized RX4, Cond.methodLink RX11 254 yX4_lengthOf, Cond.instanceMethod yX4_lengthOf, Cond.selects RX4 yX4_lengthOf yX4_lengthOf, Cond.fieldLink RX11 65 "WarpDesk" "bench" "LWarpDesk$Bench;", Cond.fieldLink RX11 42 "WarpDesk" "settings" "LWarpDesk$Settings;", Cond.methodLink RX11 154 yX7_valueOf, Cond.instanceMethod yX7_valueOf, Cond.selects RX7 yX7_valueOf yX7_valueOf, Cond.initialized RX7, Cond.methodLink RX11 257 yX0_openQuery, Cond.instanceMethod yX0_openQuery, Cond.selects RX0 yX0_openQuery yX0_openQuery, Cond.initialized RX0, Cond.methodLink RX11 260 yX0_laySecondQuery, Cond.instanceMethod yX0_laySecondQuery, Cond.selects RX0 yX0_laySecondQuery yX0_laySecondQuery, Cond.fieldLink RX11 202 "WarpDesk$Bench" "fit" "LWarpDesk$Fit;", Cond.methodLink RX11 215 yX2_wholeDistance, Cond.instanceMethod yX2_wholeDistance, Cond.selects RX2 yX2_wholeDistance yX2_wholeDistance, Cond.initialized RX2]
def wz_k255_X11_alike : List Cond := .code yX11_alike cX11_alike 3 (some .int) :: (wo_k255_X11_alike ++ (wsX00 ++ (wsX110 ++ (wz_k155_X4_has ++ (wz_k165_X4_lengthOf ++ (wz_k174_X7_valueOf ++ (wz_k224_X0_openQuery ++ (wz_k256_X0_laySecondQuery ++ (wz_k232_X2_wholeDistance ++ ([] : List Cond))))))))))
theorem zg_k255_X11_alike : ∀ w ∈ wz_k255_X11_alike, goodWord w = true := zg_cons rfl (zg_app (by decide +kernel) (zg_app zgU_wsX00 (zg_app zgU_wsX110 (zg_app zg_k155_X4_has (zg_app zg_k165_X4_lengthOf (zg_app zg_k174_X7_valueOf (zg_app zg_k224_X0_openQuery (zg_app zg_k256_X0_laySecondQuery (zg_app zg_k232_X2_wholeDistance zg_nil)))))))))
theorem zi_k255_X11_alike : ∀ w ∈ wz_k255_X11_alike, w ∈ lw_tbl := zi_cons zw_1085 (zi_app (zi_cons zw_490 (zi_cons zw_1086 (zi_cons zw_747 (zi_cons zw_748 (zi_cons zw_108 (zi_cons zw_1087 (zi_cons zw_757 (zi_cons zw_758 (zi_cons zw_494 (zi_cons zw_491 (zi_cons zw_863 (zi_cons zw_786 (zi_cons zw_787 (zi_cons zw_107 (zi_cons zw_1088 (zi_cons zw_981 (zi_cons zw_982 (zi_cons zw_111 (zi_cons zw_1089 (zi_cons zw_1090 (zi_cons zw_1091 (zi_cons zw_383 (zi_cons zw_992 (zi_cons zw_993 (zi_cons zw_994 (zi_cons zw_112 zi_nil)))))))))))))))))))))))))) (zi_app inX0 (zi_app inX11 (zi_app zi_k155_X4_has (zi_app zi_k165_X4_lengthOf (zi_app zi_k174_X7_valueOf (zi_app zi_k224_X0_openQuery (zi_app zi_k256_X0_laySecondQuery (zi_app zi_k232_X2_wholeDistance zi_nil)))))))))
set_option maxHeartbeats 4000000 in
set_option maxRecDepth 100000 in
theorem k255_X11_alike (l : Launch) (D : va_G) (zt : Nat × Nat × Nat × (Nat → Nat) × (Nat → Nat)) (q : Nat → Nat) (d : Nat → ClassId) (I : Nat → Int32) (A : Nat → Nat → Int32) (z1 : Int32) (z2 : Int32) (hIv : IvX I A) : GM l D zt (tyX d) yX11_alike wz_k255_X11_alike ({ frames := 5, cells := 0, slots := 0, locals := 109 } : Room) [.ref (q 0), .int z1, .int z2] (wX q d I A) (fun v _ w' => ∃ (I' : Nat → Int32) (A' : Nat → Nat → Int32), Md [28, 30, 31, 32, 33, 34] I I' ∧ Md [21, 22, 23] A A' ∧ IvX I' A' ∧ ∃ y0 : Int32, FE (fX11_alike I A z1 z2) (y0, I', A') ∧ v = some (.int y0) ∧ w' = wX q d I' A') 0 0 := by
  refine GM.of (cc := cX11_alike) (maxL := 3) (ret := (some .int)) (own := RX11) (lv := [(0, .ref (q 0)), (1, .int z1), (2, .int z2)]) (by decide) rfl rfl (Nat.le_of_ble_eq_true rfl) rfl (fun κ sz hk hR hN => ?_)
  have hin0 : ∀ w ∈ u_ws RX0 TX0 5, w ∈ wz_k255_X11_alike := fun w h => (List.mem_cons_of_mem _ (List.mem_append_right _ (List.mem_append_left _ h)))
  have hin11 : ∀ w ∈ u_ws RX11 TX11 10, w ∈ wz_k255_X11_alike := fun w h => (List.mem_cons_of_mem _ (List.mem_append_right _ (List.mem_append_right _ (List.mem_append_left _ h))))
  have hF : FE (fX11_alike I A z1 z2) (fX11_alike I A z1 z2) := FE.rf
  refine g_aload_n hk dX11_alike_0 rfl ?_
  refine gX_r0_3 hk hin11 (List.mem_cons_of_mem _ (List.mem_append_left _ (List.mem_of_getElem? (i := 0) rfl))) dX11_alike_1 ?_
  refine g_iload_n hk dX11_alike_4 rfl ?_
  refine g_callV (n := 1) hk (k168_X4_has l D zt q d I A z1 hIv) (SP.same _) (fun _ h => h) (gi_V (List.mem_cons_of_mem _ (List.mem_append_left _ (List.mem_of_getElem? (i := 1) rfl))) (List.mem_cons_of_mem _ (List.mem_append_left _ (List.mem_of_getElem? (i := 2) rfl))) (List.mem_cons_of_mem _ (List.mem_append_left _ (List.mem_of_getElem? (i := 3) rfl))) (List.mem_cons_of_mem _ (List.mem_append_left _ (List.mem_of_getElem? (i := 4) rfl))) (gi_sub (fun w h => (List.mem_cons_of_mem _ (List.mem_append_right _ (List.mem_append_right _ (List.mem_append_right _ (List.mem_append_left _ h)))))) zg_k155_X4_has)) rfl rfl rfl (by decide +kernel) ⟨Nat.le_of_ble_eq_true rfl, Nat.le_of_ble_eq_true rfl⟩ 15 rfl rfl rfl rfl (Nat.le_of_ble_eq_true rfl) ⟨Nat.le_of_ble_eq_true rfl, Nat.le_of_ble_eq_true rfl⟩ dX11_alike_5 (fun v ty' w' hp hk' => ?_)
  rcases hp with ⟨hC, rfl, rfl⟩ | ⟨c4810, c4811, c4812, c4813, hC, rfl, rfl⟩
  · skip
    replace hF := FE.pos hF hC
    show GW κ 3 0 0 (wX q d I A) 8 [(0, .ref (q 0)), (1, .int z1), (2, .int z2)] [.int 0]
    refine g_if_eq (tgt := 22) (a := 0) hk dX11_alike_8 (by decide) rfl (fun _ => ?_) (fun z9 => absurd (show (0 : Int) = (0 : Int) from by decide) z9)
    refine g_iconst (v := (-1)) hk dX11_alike_22 (by decide) ?_
    exact g_iret hk hR rfl ⟨I, A, (show Md [28, 30, 31, 32, 33, 34] I I from Md.rf), (show Md [21, 22, 23] A A from Md.rf), hIv, (-1), hF, rfl, rfl⟩ dX11_alike_23
  · skip
    replace hF := FE.neg hF (fe_ne hC (by decide))
    show GW κ 3 0 0 (wX q d I A) 8 [(0, .ref (q 0)), (1, .int z1), (2, .int z2)] [.int 1]
    refine g_if_eq (tgt := 22) (a := 1) hk dX11_alike_8 (by decide) rfl (fun z9 => absurd z9 (show ¬ ((1 : Int) = (0 : Int)) from by decide)) (fun _ => ?_)
    refine g_aload_n hk dX11_alike_11 rfl ?_
    refine gX_r0_3 hk hin11 (List.mem_cons_of_mem _ (List.mem_append_left _ (List.mem_of_getElem? (i := 0) rfl))) dX11_alike_12 ?_
    refine g_iload_n hk dX11_alike_15 rfl ?_
    refine g_callV (n := 1) hk (k168_X4_has l D zt q d I A z2 hIv) (SP.same _) (fun _ h => h) (gi_V (List.mem_cons_of_mem _ (List.mem_append_left _ (List.mem_of_getElem? (i := 1) rfl))) (List.mem_cons_of_mem _ (List.mem_append_left _ (List.mem_of_getElem? (i := 2) rfl))) (List.mem_cons_of_mem _ (List.mem_append_left _ (List.mem_of_getElem? (i := 3) rfl))) (List.mem_cons_of_mem _ (List.mem_append_left _ (List.mem_of_getElem? (i := 4) rfl))) (gi_sub (fun w h => (List.mem_cons_of_mem _ (List.mem_append_right _ (List.mem_append_right _ (List.mem_append_right _ (List.mem_append_left _ h)))))) zg_k155_X4_has)) rfl rfl rfl (by decide +kernel) ⟨Nat.le_of_ble_eq_true rfl, Nat.le_of_ble_eq_true rfl⟩ 15 rfl rfl rfl rfl (Nat.le_of_ble_eq_true rfl) ⟨Nat.le_of_ble_eq_true rfl, Nat.le_of_ble_eq_true rfl⟩ dX11_alike_16 (fun v ty' w' hp hk' => ?_)
    rcases hp with ⟨hC, rfl, rfl⟩ | ⟨c4816, c4817, c4818, c4819, hC, rfl, rfl⟩
    · skip
      replace hF := FE.pos hF hC
      show GW κ 3 0 0 (wX q d I A) 19 [(0, .ref (q 0)), (1, .int z1), (2, .int z2)] [.int 0]
      refine g_if_ne (tgt := 24) (a := 0) hk dX11_alike_19 (by decide) rfl (fun z9 => absurd z9 (show ¬ ((0 : Int) ≠ (0 : Int)) from by decide)) (fun _ => ?_)
      refine g_iconst (v := (-1)) hk dX11_alike_22 (by decide) ?_
      exact g_iret hk hR rfl ⟨I, A, (show Md [28, 30, 31, 32, 33, 34] I I from Md.rf), (show Md [21, 22, 23] A A from Md.rf), hIv, (-1), hF, rfl, rfl⟩ dX11_alike_23
    · skip
      replace hF := FE.neg hF (fe_ne hC (by decide))
      show GW κ 3 0 0 (wX q d I A) 19 [(0, .ref (q 0)), (1, .int z1), (2, .int z2)] [.int 1]
      refine g_if_ne (tgt := 24) (a := 1) hk dX11_alike_19 (by decide) rfl (fun _ => ?_) (fun z9 => absurd (show (1 : Int) ≠ (0 : Int) from by decide) z9)
      refine g_aload_n hk dX11_alike_24 rfl ?_
      refine gX_r0_3 hk hin11 (List.mem_cons_of_mem _ (List.mem_append_left _ (List.mem_of_getElem? (i := 0) rfl))) dX11_alike_25 ?_
      refine g_iload_n hk dX11_alike_28 rfl ?_
      refine g_callV (n := 1) hk (k182_X4_lengthOf l D zt q d I A z1 hIv) (SP.same _) (fun _ h => h) (gi_V (List.mem_cons_of_mem _ (List.mem_append_left _ (List.mem_of_getElem? (i := 5) rfl))) (List.mem_cons_of_mem _ (List.mem_append_left _ (List.mem_of_getElem? (i := 6) rfl))) (List.mem_cons_of_mem _ (List.mem_append_left _ (List.mem_of_getElem? (i := 7) rfl))) (List.mem_cons_of_mem _ (List.mem_append_left _ (List.mem_of_getElem? (i := 4) rfl))) (gi_sub (fun w h => (List.mem_cons_of_mem _ (List.mem_append_right _ (List.mem_append_right _ (List.mem_append_right _ (List.mem_append_right _ (List.mem_append_left _ h))))))) zg_k165_X4_lengthOf)) rfl rfl rfl (by decide +kernel) ⟨Nat.le_of_ble_eq_true rfl, Nat.le_of_ble_eq_true rfl⟩ 15 rfl rfl rfl rfl (Nat.le_of_ble_eq_true rfl) ⟨Nat.le_of_ble_eq_true rfl, Nat.le_of_ble_eq_true rfl⟩ dX11_alike_29 (fun v ty' w' hp hk' => ?_)
      rcases hp with ⟨hC, rfl, rfl⟩ | ⟨y4828, c4822, c4823, c4824, c4825, c4826, c4827, c4829, c4830, hC, rfl, rfl⟩
      · skip
        replace hF := FE.pos hF (fe_2 hC)
        show GW κ 3 0 0 (wX q d I A) 32 [(0, .ref (q 0)), (1, .int z1), (2, .int z2)] [.int 0]
        refine g_aload_n hk dX11_alike_32 rfl ?_
        refine gX_r0_3 hk hin11 (List.mem_cons_of_mem _ (List.mem_append_left _ (List.mem_of_getElem? (i := 0) rfl))) dX11_alike_33 ?_
        refine g_iload_n hk dX11_alike_36 rfl ?_
        refine g_callV (n := 1) hk (k182_X4_lengthOf l D zt q d I A z2 hIv) (SP.same _) (fun _ h => h) (gi_V (List.mem_cons_of_mem _ (List.mem_append_left _ (List.mem_of_getElem? (i := 5) rfl))) (List.mem_cons_of_mem _ (List.mem_append_left _ (List.mem_of_getElem? (i := 6) rfl))) (List.mem_cons_of_mem _ (List.mem_append_left _ (List.mem_of_getElem? (i := 7) rfl))) (List.mem_cons_of_mem _ (List.mem_append_left _ (List.mem_of_getElem? (i := 4) rfl))) (gi_sub (fun w h => (List.mem_cons_of_mem _ (List.mem_append_right _ (List.mem_append_right _ (List.mem_append_right _ (List.mem_append_right _ (List.mem_append_left _ h))))))) zg_k165_X4_lengthOf)) rfl rfl rfl (by decide +kernel) ⟨Nat.le_of_ble_eq_true rfl, Nat.le_of_ble_eq_true rfl⟩ 15 rfl rfl rfl rfl (Nat.le_of_ble_eq_true rfl) ⟨Nat.le_of_ble_eq_true rfl, Nat.le_of_ble_eq_true rfl⟩ dX11_alike_37 (fun v ty' w' hp hk' => ?_)
        rcases hp with ⟨hC, rfl, rfl⟩ | ⟨y4838, c4832, c4833, c4834, c4835, c4836, c4837, c4839, c4840, hC, rfl, rfl⟩
        · skip
          replace hF := FE.pos hF (fe_2 hC)
          show GW κ 3 0 0 (wX q d I A) 40 [(0, .ref (q 0)), (1, .int z1), (2, .int z2)] [.int 0, .int 0]
          refine g_icmp_eq (tgt := 46) (a := 0) (b := 0) hk dX11_alike_40 (by decide) rfl rfl (fun _ => ?_) (fun z9 => absurd (show (0 : Int) = (0 : Int) from by decide) z9)
          refine g_aload_n hk dX11_alike_46 rfl ?_
          refine gX_r0_7 hk hin11 (List.mem_cons_of_mem _ (List.mem_append_left _ (List.mem_of_getElem? (i := 8) rfl))) dX11_alike_47 ?_
          refine g_iload_n hk dX11_alike_50 rfl ?_
          refine g_aload_n hk dX11_alike_51 rfl ?_
          refine gX_r0_4 hk hin11 (List.mem_cons_of_mem _ (List.mem_append_left _ (List.mem_of_getElem? (i := 9) rfl))) dX11_alike_52 ?_
          refine g_iconst (v := 0) hk dX11_alike_55 (by decide) ?_
          have k4841 : (0 : Int32).toInt = 0 := rfl
          refine g_callV (n := 1) hk (k194_X7_valueOf l D zt q d I A 0 hIv) (SP.same _) (fun _ h => h) (gi_V (List.mem_cons_of_mem _ (List.mem_append_left _ (List.mem_of_getElem? (i := 10) rfl))) (List.mem_cons_of_mem _ (List.mem_append_left _ (List.mem_of_getElem? (i := 11) rfl))) (List.mem_cons_of_mem _ (List.mem_append_left _ (List.mem_of_getElem? (i := 12) rfl))) (List.mem_cons_of_mem _ (List.mem_append_left _ (List.mem_of_getElem? (i := 13) rfl))) (gi_sub (fun w h => (List.mem_cons_of_mem _ (List.mem_append_right _ (List.mem_append_right _ (List.mem_append_right _ (List.mem_append_right _ (List.mem_append_right _ (List.mem_append_left _ h)))))))) zg_k174_X7_valueOf)) rfl rfl rfl (by decide +kernel) ⟨Nat.le_of_ble_eq_true rfl, Nat.le_of_ble_eq_true rfl⟩ 18 rfl rfl rfl rfl (Nat.le_of_ble_eq_true rfl) ⟨Nat.le_of_ble_eq_true rfl, Nat.le_of_ble_eq_true rfl⟩ dX11_alike_56 (fun v ty' w' hp hk' => ?_)
          obtain ⟨y4842, hC, rfl, rfl⟩ := hp
          replace hF := FE.lt hF (fe_s hC)
          show GW κ 3 0 0 (wX q d I A) 59 [(0, .ref (q 0)), (1, .int z1), (2, .int z2)] [.int y4842, .int z1, .ref (q 37)]
          refine g_callV (n := 2) hk (k224_X0_openQuery l D zt q d I A z1 y4842 hIv) (SP.same _) (fun _ h => h) (gi_V (List.mem_cons_of_mem _ (List.mem_append_left _ (List.mem_of_getElem? (i := 14) rfl))) (List.mem_cons_of_mem _ (List.mem_append_left _ (List.mem_of_getElem? (i := 15) rfl))) (List.mem_cons_of_mem _ (List.mem_append_left _ (List.mem_of_getElem? (i := 16) rfl))) (List.mem_cons_of_mem _ (List.mem_append_left _ (List.mem_of_getElem? (i := 17) rfl))) (gi_sub (fun w h => (List.mem_cons_of_mem _ (List.mem_append_right _ (List.mem_append_right _ (List.mem_append_right _ (List.mem_append_right _ (List.mem_append_right _ (List.mem_append_right _ (List.mem_append_left _ h))))))))) zg_k224_X0_openQuery)) rfl rfl rfl (by decide +kernel) ⟨Nat.le_of_ble_eq_true rfl, Nat.le_of_ble_eq_true rfl⟩ 37 rfl rfl rfl rfl (Nat.le_of_ble_eq_true rfl) ⟨Nat.le_of_ble_eq_true rfl, Nat.le_of_ble_eq_true rfl⟩ dX11_alike_59 (fun v ty' w' hp hk' => ?_)
          obtain ⟨I4844, A4844, hI4844, hA4844, hV4844, hC, rfl, rfl⟩ := hp
          replace hF := FE.bdX hF hC
          show GW κ 3 0 0 (wX q d I4844 A4844) 62 [(0, .ref (q 0)), (1, .int z1), (2, .int z2)] []
          refine g_aload_n hk dX11_alike_62 rfl ?_
          refine gX_r0_7 hk hin11 (List.mem_cons_of_mem _ (List.mem_append_left _ (List.mem_of_getElem? (i := 8) rfl))) dX11_alike_63 ?_
          refine g_iload_n hk dX11_alike_66 rfl ?_
          refine g_callV (n := 1) hk (k256_X0_laySecondQuery l D zt q d I4844 A4844 z2 hV4844) (SP.same _) (fun _ h => h) (gi_V (List.mem_cons_of_mem _ (List.mem_append_left _ (List.mem_of_getElem? (i := 18) rfl))) (List.mem_cons_of_mem _ (List.mem_append_left _ (List.mem_of_getElem? (i := 19) rfl))) (List.mem_cons_of_mem _ (List.mem_append_left _ (List.mem_of_getElem? (i := 20) rfl))) (List.mem_cons_of_mem _ (List.mem_append_left _ (List.mem_of_getElem? (i := 17) rfl))) (gi_sub (fun w h => (List.mem_cons_of_mem _ (List.mem_append_right _ (List.mem_append_right _ (List.mem_append_right _ (List.mem_append_right _ (List.mem_append_right _ (List.mem_append_right _ (List.mem_append_right _ (List.mem_append_left _ h)))))))))) zg_k256_X0_laySecondQuery)) rfl rfl rfl (by decide +kernel) ⟨Nat.le_of_ble_eq_true rfl, Nat.le_of_ble_eq_true rfl⟩ 37 rfl rfl rfl rfl (Nat.le_of_ble_eq_true rfl) ⟨Nat.le_of_ble_eq_true rfl, Nat.le_of_ble_eq_true rfl⟩ dX11_alike_67 (fun v ty' w' hp hk' => ?_)
          obtain ⟨I4933, A4933, hI4933, hA4933, hV4933, hC, rfl, rfl⟩ := hp
          replace hF := FE.bdX hF hC
          show GW κ 3 0 0 (wX q d I4933 A4933) 70 [(0, .ref (q 0)), (1, .int z1), (2, .int z2)] []
          refine g_aload_n hk dX11_alike_70 rfl ?_
          refine gX_r0_7 hk hin11 (List.mem_cons_of_mem _ (List.mem_append_left _ (List.mem_of_getElem? (i := 8) rfl))) dX11_alike_71 ?_
          refine gX_r37_3 hk hin0 (List.mem_cons_of_mem _ (List.mem_append_left _ (List.mem_of_getElem? (i := 21) rfl))) dX11_alike_74 ?_
          refine g_callV (n := 0) hk (k232_X2_wholeDistance l D zt q d I4933 A4933  hV4933) (SP.same _) (fun _ h => h) (gi_V (List.mem_cons_of_mem _ (List.mem_append_left _ (List.mem_of_getElem? (i := 22) rfl))) (List.mem_cons_of_mem _ (List.mem_append_left _ (List.mem_of_getElem? (i := 23) rfl))) (List.mem_cons_of_mem _ (List.mem_append_left _ (List.mem_of_getElem? (i := 24) rfl))) (List.mem_cons_of_mem _ (List.mem_append_left _ (List.mem_of_getElem? (i := 25) rfl))) (gi_sub (fun w h => (List.mem_cons_of_mem _ (List.mem_append_right _ (List.mem_append_right _ (List.mem_append_right _ (List.mem_append_right _ (List.mem_append_right _ (List.mem_append_right _ (List.mem_append_right _ (List.mem_append_right _ (List.mem_append_left _ h))))))))))) zg_k232_X2_wholeDistance)) rfl rfl rfl (by decide +kernel) ⟨Nat.le_of_ble_eq_true rfl, Nat.le_of_ble_eq_true rfl⟩ 38 rfl rfl rfl rfl (Nat.le_of_ble_eq_true rfl) ⟨Nat.le_of_ble_eq_true rfl, Nat.le_of_ble_eq_true rfl⟩ dX11_alike_77 (fun v ty' w' hp hk' => ?_)
          obtain ⟨I4935, A4935, hI4935, hA4935, hV4935, y4934, hC, rfl, rfl⟩ := hp
          replace hF := FE.bdX hF hC
          show GW κ 3 0 0 (wX q d I4935 A4935) 80 [(0, .ref (q 0)), (1, .int z1), (2, .int z2)] [.int y4934]
          have b4936l := Int32.le_toInt y4934
          have b4936h := Int32.toInt_lt y4934
          exact g_iret hk hR rfl ⟨I4935, A4935, (show Md [28, 30, 31, 32, 33, 34] I I4935 from (Md.tr (Md.tr (Md.tr Md.rf hI4844 rfl) hI4933 rfl) hI4935 rfl)), (show Md [21, 22, 23] A A4935 from (Md.tr (Md.tr (Md.tr Md.rf hA4844 rfl) hA4933 rfl) hA4935 rfl)), hV4935, y4934, hF, rfl, rfl⟩ dX11_alike_80
        · skip
          replace hF := FE.neg hF (fe_ne2 hC (by decide))
          replace hF := FE.lt hF (fe_1 hC)
          show GW κ 3 0 0 (wX q d I A) 40 [(0, .ref (q 0)), (1, .int z1), (2, .int z2)] [.int y4838, .int 0]
          refine g_icmp_eq (tgt := 46) (a := 0) (b := y4838.toInt) hk dX11_alike_40 (by decide) rfl rfl (fun c4937 => ?_) (fun c4937 => ?_)
          · skip
            replace hF := FE.pos hF c4937
            refine g_aload_n hk dX11_alike_46 rfl ?_
            refine gX_r0_7 hk hin11 (List.mem_cons_of_mem _ (List.mem_append_left _ (List.mem_of_getElem? (i := 8) rfl))) dX11_alike_47 ?_
            refine g_iload_n hk dX11_alike_50 rfl ?_
            refine g_aload_n hk dX11_alike_51 rfl ?_
            refine gX_r0_4 hk hin11 (List.mem_cons_of_mem _ (List.mem_append_left _ (List.mem_of_getElem? (i := 9) rfl))) dX11_alike_52 ?_
            refine g_iconst (v := 0) hk dX11_alike_55 (by decide) ?_
            have k4938 : (0 : Int32).toInt = 0 := rfl
            refine g_callV (n := 1) hk (k194_X7_valueOf l D zt q d I A 0 hIv) (SP.same _) (fun _ h => h) (gi_V (List.mem_cons_of_mem _ (List.mem_append_left _ (List.mem_of_getElem? (i := 10) rfl))) (List.mem_cons_of_mem _ (List.mem_append_left _ (List.mem_of_getElem? (i := 11) rfl))) (List.mem_cons_of_mem _ (List.mem_append_left _ (List.mem_of_getElem? (i := 12) rfl))) (List.mem_cons_of_mem _ (List.mem_append_left _ (List.mem_of_getElem? (i := 13) rfl))) (gi_sub (fun w h => (List.mem_cons_of_mem _ (List.mem_append_right _ (List.mem_append_right _ (List.mem_append_right _ (List.mem_append_right _ (List.mem_append_right _ (List.mem_append_left _ h)))))))) zg_k174_X7_valueOf)) rfl rfl rfl (by decide +kernel) ⟨Nat.le_of_ble_eq_true rfl, Nat.le_of_ble_eq_true rfl⟩ 18 rfl rfl rfl rfl (Nat.le_of_ble_eq_true rfl) ⟨Nat.le_of_ble_eq_true rfl, Nat.le_of_ble_eq_true rfl⟩ dX11_alike_56 (fun v ty' w' hp hk' => ?_)
            obtain ⟨y4939, hC, rfl, rfl⟩ := hp
            replace hF := FE.lt hF (fe_s hC)
            show GW κ 3 0 0 (wX q d I A) 59 [(0, .ref (q 0)), (1, .int z1), (2, .int z2)] [.int y4939, .int z1, .ref (q 37)]
            refine g_callV (n := 2) hk (k224_X0_openQuery l D zt q d I A z1 y4939 hIv) (SP.same _) (fun _ h => h) (gi_V (List.mem_cons_of_mem _ (List.mem_append_left _ (List.mem_of_getElem? (i := 14) rfl))) (List.mem_cons_of_mem _ (List.mem_append_left _ (List.mem_of_getElem? (i := 15) rfl))) (List.mem_cons_of_mem _ (List.mem_append_left _ (List.mem_of_getElem? (i := 16) rfl))) (List.mem_cons_of_mem _ (List.mem_append_left _ (List.mem_of_getElem? (i := 17) rfl))) (gi_sub (fun w h => (List.mem_cons_of_mem _ (List.mem_append_right _ (List.mem_append_right _ (List.mem_append_right _ (List.mem_append_right _ (List.mem_append_right _ (List.mem_append_right _ (List.mem_append_left _ h))))))))) zg_k224_X0_openQuery)) rfl rfl rfl (by decide +kernel) ⟨Nat.le_of_ble_eq_true rfl, Nat.le_of_ble_eq_true rfl⟩ 37 rfl rfl rfl rfl (Nat.le_of_ble_eq_true rfl) ⟨Nat.le_of_ble_eq_true rfl, Nat.le_of_ble_eq_true rfl⟩ dX11_alike_59 (fun v ty' w' hp hk' => ?_)
            obtain ⟨I4941, A4941, hI4941, hA4941, hV4941, hC, rfl, rfl⟩ := hp
            replace hF := FE.bdX hF hC
            show GW κ 3 0 0 (wX q d I4941 A4941) 62 [(0, .ref (q 0)), (1, .int z1), (2, .int z2)] []
            refine g_aload_n hk dX11_alike_62 rfl ?_
            refine gX_r0_7 hk hin11 (List.mem_cons_of_mem _ (List.mem_append_left _ (List.mem_of_getElem? (i := 8) rfl))) dX11_alike_63 ?_
            refine g_iload_n hk dX11_alike_66 rfl ?_
            refine g_callV (n := 1) hk (k256_X0_laySecondQuery l D zt q d I4941 A4941 z2 hV4941) (SP.same _) (fun _ h => h) (gi_V (List.mem_cons_of_mem _ (List.mem_append_left _ (List.mem_of_getElem? (i := 18) rfl))) (List.mem_cons_of_mem _ (List.mem_append_left _ (List.mem_of_getElem? (i := 19) rfl))) (List.mem_cons_of_mem _ (List.mem_append_left _ (List.mem_of_getElem? (i := 20) rfl))) (List.mem_cons_of_mem _ (List.mem_append_left _ (List.mem_of_getElem? (i := 17) rfl))) (gi_sub (fun w h => (List.mem_cons_of_mem _ (List.mem_append_right _ (List.mem_append_right _ (List.mem_append_right _ (List.mem_append_right _ (List.mem_append_right _ (List.mem_append_right _ (List.mem_append_right _ (List.mem_append_left _ h)))))))))) zg_k256_X0_laySecondQuery)) rfl rfl rfl (by decide +kernel) ⟨Nat.le_of_ble_eq_true rfl, Nat.le_of_ble_eq_true rfl⟩ 37 rfl rfl rfl rfl (Nat.le_of_ble_eq_true rfl) ⟨Nat.le_of_ble_eq_true rfl, Nat.le_of_ble_eq_true rfl⟩ dX11_alike_67 (fun v ty' w' hp hk' => ?_)
            obtain ⟨I4943, A4943, hI4943, hA4943, hV4943, hC, rfl, rfl⟩ := hp
            replace hF := FE.bdX hF hC
            show GW κ 3 0 0 (wX q d I4943 A4943) 70 [(0, .ref (q 0)), (1, .int z1), (2, .int z2)] []
            refine g_aload_n hk dX11_alike_70 rfl ?_
            refine gX_r0_7 hk hin11 (List.mem_cons_of_mem _ (List.mem_append_left _ (List.mem_of_getElem? (i := 8) rfl))) dX11_alike_71 ?_
            refine gX_r37_3 hk hin0 (List.mem_cons_of_mem _ (List.mem_append_left _ (List.mem_of_getElem? (i := 21) rfl))) dX11_alike_74 ?_
            refine g_callV (n := 0) hk (k232_X2_wholeDistance l D zt q d I4943 A4943  hV4943) (SP.same _) (fun _ h => h) (gi_V (List.mem_cons_of_mem _ (List.mem_append_left _ (List.mem_of_getElem? (i := 22) rfl))) (List.mem_cons_of_mem _ (List.mem_append_left _ (List.mem_of_getElem? (i := 23) rfl))) (List.mem_cons_of_mem _ (List.mem_append_left _ (List.mem_of_getElem? (i := 24) rfl))) (List.mem_cons_of_mem _ (List.mem_append_left _ (List.mem_of_getElem? (i := 25) rfl))) (gi_sub (fun w h => (List.mem_cons_of_mem _ (List.mem_append_right _ (List.mem_append_right _ (List.mem_append_right _ (List.mem_append_right _ (List.mem_append_right _ (List.mem_append_right _ (List.mem_append_right _ (List.mem_append_right _ (List.mem_append_left _ h))))))))))) zg_k232_X2_wholeDistance)) rfl rfl rfl (by decide +kernel) ⟨Nat.le_of_ble_eq_true rfl, Nat.le_of_ble_eq_true rfl⟩ 38 rfl rfl rfl rfl (Nat.le_of_ble_eq_true rfl) ⟨Nat.le_of_ble_eq_true rfl, Nat.le_of_ble_eq_true rfl⟩ dX11_alike_77 (fun v ty' w' hp hk' => ?_)
            obtain ⟨I4945, A4945, hI4945, hA4945, hV4945, y4944, hC, rfl, rfl⟩ := hp
            replace hF := FE.bdX hF hC
            show GW κ 3 0 0 (wX q d I4945 A4945) 80 [(0, .ref (q 0)), (1, .int z1), (2, .int z2)] [.int y4944]
            have b4946l := Int32.le_toInt y4944
            have b4946h := Int32.toInt_lt y4944
            exact g_iret hk hR rfl ⟨I4945, A4945, (show Md [28, 30, 31, 32, 33, 34] I I4945 from (Md.tr (Md.tr (Md.tr Md.rf hI4941 rfl) hI4943 rfl) hI4945 rfl)), (show Md [21, 22, 23] A A4945 from (Md.tr (Md.tr (Md.tr Md.rf hA4941 rfl) hA4943 rfl) hA4945 rfl)), hV4945, y4944, hF, rfl, rfl⟩ dX11_alike_80
          · skip
            replace hF := FE.neg hF c4937
            refine g_bipush (v := (-2)) hk dX11_alike_43 (by decide) ?_
            exact g_iret hk hR rfl ⟨I, A, (show Md [28, 30, 31, 32, 33, 34] I I from Md.rf), (show Md [21, 22, 23] A A from Md.rf), hIv, (-2), hF, rfl, rfl⟩ dX11_alike_45
      · skip
        replace hF := FE.neg hF (fe_ne2 hC (by decide))
        replace hF := FE.lt hF (fe_1 hC)
        show GW κ 3 0 0 (wX q d I A) 32 [(0, .ref (q 0)), (1, .int z1), (2, .int z2)] [.int y4828]
        refine g_aload_n hk dX11_alike_32 rfl ?_
        refine gX_r0_3 hk hin11 (List.mem_cons_of_mem _ (List.mem_append_left _ (List.mem_of_getElem? (i := 0) rfl))) dX11_alike_33 ?_
        refine g_iload_n hk dX11_alike_36 rfl ?_
        refine g_callV (n := 1) hk (k182_X4_lengthOf l D zt q d I A z2 hIv) (SP.same _) (fun _ h => h) (gi_V (List.mem_cons_of_mem _ (List.mem_append_left _ (List.mem_of_getElem? (i := 5) rfl))) (List.mem_cons_of_mem _ (List.mem_append_left _ (List.mem_of_getElem? (i := 6) rfl))) (List.mem_cons_of_mem _ (List.mem_append_left _ (List.mem_of_getElem? (i := 7) rfl))) (List.mem_cons_of_mem _ (List.mem_append_left _ (List.mem_of_getElem? (i := 4) rfl))) (gi_sub (fun w h => (List.mem_cons_of_mem _ (List.mem_append_right _ (List.mem_append_right _ (List.mem_append_right _ (List.mem_append_right _ (List.mem_append_left _ h))))))) zg_k165_X4_lengthOf)) rfl rfl rfl (by decide +kernel) ⟨Nat.le_of_ble_eq_true rfl, Nat.le_of_ble_eq_true rfl⟩ 15 rfl rfl rfl rfl (Nat.le_of_ble_eq_true rfl) ⟨Nat.le_of_ble_eq_true rfl, Nat.le_of_ble_eq_true rfl⟩ dX11_alike_37 (fun v ty' w' hp hk' => ?_)
        rcases hp with ⟨hC, rfl, rfl⟩ | ⟨y4954, c4948, c4949, c4950, c4951, c4952, c4953, c4955, c4956, hC, rfl, rfl⟩
        · skip
          replace hF := FE.pos hF (fe_2 hC)
          show GW κ 3 0 0 (wX q d I A) 40 [(0, .ref (q 0)), (1, .int z1), (2, .int z2)] [.int 0, .int y4828]
          refine g_icmp_eq (tgt := 46) (a := y4828.toInt) (b := 0) hk dX11_alike_40 (by decide) rfl rfl (fun c4957 => ?_) (fun c4957 => ?_)
          · skip
            replace hF := FE.pos hF c4957
            refine g_aload_n hk dX11_alike_46 rfl ?_
            refine gX_r0_7 hk hin11 (List.mem_cons_of_mem _ (List.mem_append_left _ (List.mem_of_getElem? (i := 8) rfl))) dX11_alike_47 ?_
            refine g_iload_n hk dX11_alike_50 rfl ?_
            refine g_aload_n hk dX11_alike_51 rfl ?_
            refine gX_r0_4 hk hin11 (List.mem_cons_of_mem _ (List.mem_append_left _ (List.mem_of_getElem? (i := 9) rfl))) dX11_alike_52 ?_
            refine g_iconst (v := 0) hk dX11_alike_55 (by decide) ?_
            have k4958 : (0 : Int32).toInt = 0 := rfl
            refine g_callV (n := 1) hk (k194_X7_valueOf l D zt q d I A 0 hIv) (SP.same _) (fun _ h => h) (gi_V (List.mem_cons_of_mem _ (List.mem_append_left _ (List.mem_of_getElem? (i := 10) rfl))) (List.mem_cons_of_mem _ (List.mem_append_left _ (List.mem_of_getElem? (i := 11) rfl))) (List.mem_cons_of_mem _ (List.mem_append_left _ (List.mem_of_getElem? (i := 12) rfl))) (List.mem_cons_of_mem _ (List.mem_append_left _ (List.mem_of_getElem? (i := 13) rfl))) (gi_sub (fun w h => (List.mem_cons_of_mem _ (List.mem_append_right _ (List.mem_append_right _ (List.mem_append_right _ (List.mem_append_right _ (List.mem_append_right _ (List.mem_append_left _ h)))))))) zg_k174_X7_valueOf)) rfl rfl rfl (by decide +kernel) ⟨Nat.le_of_ble_eq_true rfl, Nat.le_of_ble_eq_true rfl⟩ 18 rfl rfl rfl rfl (Nat.le_of_ble_eq_true rfl) ⟨Nat.le_of_ble_eq_true rfl, Nat.le_of_ble_eq_true rfl⟩ dX11_alike_56 (fun v ty' w' hp hk' => ?_)
            obtain ⟨y4959, hC, rfl, rfl⟩ := hp
            replace hF := FE.lt hF (fe_s hC)
            show GW κ 3 0 0 (wX q d I A) 59 [(0, .ref (q 0)), (1, .int z1), (2, .int z2)] [.int y4959, .int z1, .ref (q 37)]
            refine g_callV (n := 2) hk (k224_X0_openQuery l D zt q d I A z1 y4959 hIv) (SP.same _) (fun _ h => h) (gi_V (List.mem_cons_of_mem _ (List.mem_append_left _ (List.mem_of_getElem? (i := 14) rfl))) (List.mem_cons_of_mem _ (List.mem_append_left _ (List.mem_of_getElem? (i := 15) rfl))) (List.mem_cons_of_mem _ (List.mem_append_left _ (List.mem_of_getElem? (i := 16) rfl))) (List.mem_cons_of_mem _ (List.mem_append_left _ (List.mem_of_getElem? (i := 17) rfl))) (gi_sub (fun w h => (List.mem_cons_of_mem _ (List.mem_append_right _ (List.mem_append_right _ (List.mem_append_right _ (List.mem_append_right _ (List.mem_append_right _ (List.mem_append_right _ (List.mem_append_left _ h))))))))) zg_k224_X0_openQuery)) rfl rfl rfl (by decide +kernel) ⟨Nat.le_of_ble_eq_true rfl, Nat.le_of_ble_eq_true rfl⟩ 37 rfl rfl rfl rfl (Nat.le_of_ble_eq_true rfl) ⟨Nat.le_of_ble_eq_true rfl, Nat.le_of_ble_eq_true rfl⟩ dX11_alike_59 (fun v ty' w' hp hk' => ?_)
            obtain ⟨I4961, A4961, hI4961, hA4961, hV4961, hC, rfl, rfl⟩ := hp
            replace hF := FE.bdX hF hC
            show GW κ 3 0 0 (wX q d I4961 A4961) 62 [(0, .ref (q 0)), (1, .int z1), (2, .int z2)] []
            refine g_aload_n hk dX11_alike_62 rfl ?_
            refine gX_r0_7 hk hin11 (List.mem_cons_of_mem _ (List.mem_append_left _ (List.mem_of_getElem? (i := 8) rfl))) dX11_alike_63 ?_
            refine g_iload_n hk dX11_alike_66 rfl ?_
            refine g_callV (n := 1) hk (k256_X0_laySecondQuery l D zt q d I4961 A4961 z2 hV4961) (SP.same _) (fun _ h => h) (gi_V (List.mem_cons_of_mem _ (List.mem_append_left _ (List.mem_of_getElem? (i := 18) rfl))) (List.mem_cons_of_mem _ (List.mem_append_left _ (List.mem_of_getElem? (i := 19) rfl))) (List.mem_cons_of_mem _ (List.mem_append_left _ (List.mem_of_getElem? (i := 20) rfl))) (List.mem_cons_of_mem _ (List.mem_append_left _ (List.mem_of_getElem? (i := 17) rfl))) (gi_sub (fun w h => (List.mem_cons_of_mem _ (List.mem_append_right _ (List.mem_append_right _ (List.mem_append_right _ (List.mem_append_right _ (List.mem_append_right _ (List.mem_append_right _ (List.mem_append_right _ (List.mem_append_left _ h)))))))))) zg_k256_X0_laySecondQuery)) rfl rfl rfl (by decide +kernel) ⟨Nat.le_of_ble_eq_true rfl, Nat.le_of_ble_eq_true rfl⟩ 37 rfl rfl rfl rfl (Nat.le_of_ble_eq_true rfl) ⟨Nat.le_of_ble_eq_true rfl, Nat.le_of_ble_eq_true rfl⟩ dX11_alike_67 (fun v ty' w' hp hk' => ?_)
            obtain ⟨I4963, A4963, hI4963, hA4963, hV4963, hC, rfl, rfl⟩ := hp
            replace hF := FE.bdX hF hC
            show GW κ 3 0 0 (wX q d I4963 A4963) 70 [(0, .ref (q 0)), (1, .int z1), (2, .int z2)] []
            refine g_aload_n hk dX11_alike_70 rfl ?_
            refine gX_r0_7 hk hin11 (List.mem_cons_of_mem _ (List.mem_append_left _ (List.mem_of_getElem? (i := 8) rfl))) dX11_alike_71 ?_
            refine gX_r37_3 hk hin0 (List.mem_cons_of_mem _ (List.mem_append_left _ (List.mem_of_getElem? (i := 21) rfl))) dX11_alike_74 ?_
            refine g_callV (n := 0) hk (k232_X2_wholeDistance l D zt q d I4963 A4963  hV4963) (SP.same _) (fun _ h => h) (gi_V (List.mem_cons_of_mem _ (List.mem_append_left _ (List.mem_of_getElem? (i := 22) rfl))) (List.mem_cons_of_mem _ (List.mem_append_left _ (List.mem_of_getElem? (i := 23) rfl))) (List.mem_cons_of_mem _ (List.mem_append_left _ (List.mem_of_getElem? (i := 24) rfl))) (List.mem_cons_of_mem _ (List.mem_append_left _ (List.mem_of_getElem? (i := 25) rfl))) (gi_sub (fun w h => (List.mem_cons_of_mem _ (List.mem_append_right _ (List.mem_append_right _ (List.mem_append_right _ (List.mem_append_right _ (List.mem_append_right _ (List.mem_append_right _ (List.mem_append_right _ (List.mem_append_right _ (List.mem_append_left _ h))))))))))) zg_k232_X2_wholeDistance)) rfl rfl rfl (by decide +kernel) ⟨Nat.le_of_ble_eq_true rfl, Nat.le_of_ble_eq_true rfl⟩ 38 rfl rfl rfl rfl (Nat.le_of_ble_eq_true rfl) ⟨Nat.le_of_ble_eq_true rfl, Nat.le_of_ble_eq_true rfl⟩ dX11_alike_77 (fun v ty' w' hp hk' => ?_)
            obtain ⟨I4965, A4965, hI4965, hA4965, hV4965, y4964, hC, rfl, rfl⟩ := hp
            replace hF := FE.bdX hF hC
            show GW κ 3 0 0 (wX q d I4965 A4965) 80 [(0, .ref (q 0)), (1, .int z1), (2, .int z2)] [.int y4964]
            have b4966l := Int32.le_toInt y4964
            have b4966h := Int32.toInt_lt y4964
            exact g_iret hk hR rfl ⟨I4965, A4965, (show Md [28, 30, 31, 32, 33, 34] I I4965 from (Md.tr (Md.tr (Md.tr Md.rf hI4961 rfl) hI4963 rfl) hI4965 rfl)), (show Md [21, 22, 23] A A4965 from (Md.tr (Md.tr (Md.tr Md.rf hA4961 rfl) hA4963 rfl) hA4965 rfl)), hV4965, y4964, hF, rfl, rfl⟩ dX11_alike_80
          · skip
            replace hF := FE.neg hF c4957
            refine g_bipush (v := (-2)) hk dX11_alike_43 (by decide) ?_
            exact g_iret hk hR rfl ⟨I, A, (show Md [28, 30, 31, 32, 33, 34] I I from Md.rf), (show Md [21, 22, 23] A A from Md.rf), hIv, (-2), hF, rfl, rfl⟩ dX11_alike_45
        · skip
          replace hF := FE.neg hF (fe_ne2 hC (by decide))
          replace hF := FE.lt hF (fe_1 hC)
          show GW κ 3 0 0 (wX q d I A) 40 [(0, .ref (q 0)), (1, .int z1), (2, .int z2)] [.int y4954, .int y4828]
          refine g_icmp_eq (tgt := 46) (a := y4828.toInt) (b := y4954.toInt) hk dX11_alike_40 (by decide) rfl rfl (fun c4967 => ?_) (fun c4967 => ?_)
          · skip
            replace hF := FE.pos hF c4967
            refine g_aload_n hk dX11_alike_46 rfl ?_
            refine gX_r0_7 hk hin11 (List.mem_cons_of_mem _ (List.mem_append_left _ (List.mem_of_getElem? (i := 8) rfl))) dX11_alike_47 ?_
            refine g_iload_n hk dX11_alike_50 rfl ?_
            refine g_aload_n hk dX11_alike_51 rfl ?_
            refine gX_r0_4 hk hin11 (List.mem_cons_of_mem _ (List.mem_append_left _ (List.mem_of_getElem? (i := 9) rfl))) dX11_alike_52 ?_
            refine g_iconst (v := 0) hk dX11_alike_55 (by decide) ?_
            have k4968 : (0 : Int32).toInt = 0 := rfl
            refine g_callV (n := 1) hk (k194_X7_valueOf l D zt q d I A 0 hIv) (SP.same _) (fun _ h => h) (gi_V (List.mem_cons_of_mem _ (List.mem_append_left _ (List.mem_of_getElem? (i := 10) rfl))) (List.mem_cons_of_mem _ (List.mem_append_left _ (List.mem_of_getElem? (i := 11) rfl))) (List.mem_cons_of_mem _ (List.mem_append_left _ (List.mem_of_getElem? (i := 12) rfl))) (List.mem_cons_of_mem _ (List.mem_append_left _ (List.mem_of_getElem? (i := 13) rfl))) (gi_sub (fun w h => (List.mem_cons_of_mem _ (List.mem_append_right _ (List.mem_append_right _ (List.mem_append_right _ (List.mem_append_right _ (List.mem_append_right _ (List.mem_append_left _ h)))))))) zg_k174_X7_valueOf)) rfl rfl rfl (by decide +kernel) ⟨Nat.le_of_ble_eq_true rfl, Nat.le_of_ble_eq_true rfl⟩ 18 rfl rfl rfl rfl (Nat.le_of_ble_eq_true rfl) ⟨Nat.le_of_ble_eq_true rfl, Nat.le_of_ble_eq_true rfl⟩ dX11_alike_56 (fun v ty' w' hp hk' => ?_)
            obtain ⟨y4969, hC, rfl, rfl⟩ := hp
            replace hF := FE.lt hF (fe_s hC)
            show GW κ 3 0 0 (wX q d I A) 59 [(0, .ref (q 0)), (1, .int z1), (2, .int z2)] [.int y4969, .int z1, .ref (q 37)]
            refine g_callV (n := 2) hk (k224_X0_openQuery l D zt q d I A z1 y4969 hIv) (SP.same _) (fun _ h => h) (gi_V (List.mem_cons_of_mem _ (List.mem_append_left _ (List.mem_of_getElem? (i := 14) rfl))) (List.mem_cons_of_mem _ (List.mem_append_left _ (List.mem_of_getElem? (i := 15) rfl))) (List.mem_cons_of_mem _ (List.mem_append_left _ (List.mem_of_getElem? (i := 16) rfl))) (List.mem_cons_of_mem _ (List.mem_append_left _ (List.mem_of_getElem? (i := 17) rfl))) (gi_sub (fun w h => (List.mem_cons_of_mem _ (List.mem_append_right _ (List.mem_append_right _ (List.mem_append_right _ (List.mem_append_right _ (List.mem_append_right _ (List.mem_append_right _ (List.mem_append_left _ h))))))))) zg_k224_X0_openQuery)) rfl rfl rfl (by decide +kernel) ⟨Nat.le_of_ble_eq_true rfl, Nat.le_of_ble_eq_true rfl⟩ 37 rfl rfl rfl rfl (Nat.le_of_ble_eq_true rfl) ⟨Nat.le_of_ble_eq_true rfl, Nat.le_of_ble_eq_true rfl⟩ dX11_alike_59 (fun v ty' w' hp hk' => ?_)
            obtain ⟨I4971, A4971, hI4971, hA4971, hV4971, hC, rfl, rfl⟩ := hp
            replace hF := FE.bdX hF hC
            show GW κ 3 0 0 (wX q d I4971 A4971) 62 [(0, .ref (q 0)), (1, .int z1), (2, .int z2)] []
            refine g_aload_n hk dX11_alike_62 rfl ?_
            refine gX_r0_7 hk hin11 (List.mem_cons_of_mem _ (List.mem_append_left _ (List.mem_of_getElem? (i := 8) rfl))) dX11_alike_63 ?_
            refine g_iload_n hk dX11_alike_66 rfl ?_
            refine g_callV (n := 1) hk (k256_X0_laySecondQuery l D zt q d I4971 A4971 z2 hV4971) (SP.same _) (fun _ h => h) (gi_V (List.mem_cons_of_mem _ (List.mem_append_left _ (List.mem_of_getElem? (i := 18) rfl))) (List.mem_cons_of_mem _ (List.mem_append_left _ (List.mem_of_getElem? (i := 19) rfl))) (List.mem_cons_of_mem _ (List.mem_append_left _ (List.mem_of_getElem? (i := 20) rfl))) (List.mem_cons_of_mem _ (List.mem_append_left _ (List.mem_of_getElem? (i := 17) rfl))) (gi_sub (fun w h => (List.mem_cons_of_mem _ (List.mem_append_right _ (List.mem_append_right _ (List.mem_append_right _ (List.mem_append_right _ (List.mem_append_right _ (List.mem_append_right _ (List.mem_append_right _ (List.mem_append_left _ h)))))))))) zg_k256_X0_laySecondQuery)) rfl rfl rfl (by decide +kernel) ⟨Nat.le_of_ble_eq_true rfl, Nat.le_of_ble_eq_true rfl⟩ 37 rfl rfl rfl rfl (Nat.le_of_ble_eq_true rfl) ⟨Nat.le_of_ble_eq_true rfl, Nat.le_of_ble_eq_true rfl⟩ dX11_alike_67 (fun v ty' w' hp hk' => ?_)
            obtain ⟨I4973, A4973, hI4973, hA4973, hV4973, hC, rfl, rfl⟩ := hp
            replace hF := FE.bdX hF hC
            show GW κ 3 0 0 (wX q d I4973 A4973) 70 [(0, .ref (q 0)), (1, .int z1), (2, .int z2)] []
            refine g_aload_n hk dX11_alike_70 rfl ?_
            refine gX_r0_7 hk hin11 (List.mem_cons_of_mem _ (List.mem_append_left _ (List.mem_of_getElem? (i := 8) rfl))) dX11_alike_71 ?_
            refine gX_r37_3 hk hin0 (List.mem_cons_of_mem _ (List.mem_append_left _ (List.mem_of_getElem? (i := 21) rfl))) dX11_alike_74 ?_
            refine g_callV (n := 0) hk (k232_X2_wholeDistance l D zt q d I4973 A4973  hV4973) (SP.same _) (fun _ h => h) (gi_V (List.mem_cons_of_mem _ (List.mem_append_left _ (List.mem_of_getElem? (i := 22) rfl))) (List.mem_cons_of_mem _ (List.mem_append_left _ (List.mem_of_getElem? (i := 23) rfl))) (List.mem_cons_of_mem _ (List.mem_append_left _ (List.mem_of_getElem? (i := 24) rfl))) (List.mem_cons_of_mem _ (List.mem_append_left _ (List.mem_of_getElem? (i := 25) rfl))) (gi_sub (fun w h => (List.mem_cons_of_mem _ (List.mem_append_right _ (List.mem_append_right _ (List.mem_append_right _ (List.mem_append_right _ (List.mem_append_right _ (List.mem_append_right _ (List.mem_append_right _ (List.mem_append_right _ (List.mem_append_left _ h))))))))))) zg_k232_X2_wholeDistance)) rfl rfl rfl (by decide +kernel) ⟨Nat.le_of_ble_eq_true rfl, Nat.le_of_ble_eq_true rfl⟩ 38 rfl rfl rfl rfl (Nat.le_of_ble_eq_true rfl) ⟨Nat.le_of_ble_eq_true rfl, Nat.le_of_ble_eq_true rfl⟩ dX11_alike_77 (fun v ty' w' hp hk' => ?_)
            obtain ⟨I4975, A4975, hI4975, hA4975, hV4975, y4974, hC, rfl, rfl⟩ := hp
            replace hF := FE.bdX hF hC
            show GW κ 3 0 0 (wX q d I4975 A4975) 80 [(0, .ref (q 0)), (1, .int z1), (2, .int z2)] [.int y4974]
            have b4976l := Int32.le_toInt y4974
            have b4976h := Int32.toInt_lt y4974
            exact g_iret hk hR rfl ⟨I4975, A4975, (show Md [28, 30, 31, 32, 33, 34] I I4975 from (Md.tr (Md.tr (Md.tr Md.rf hI4971 rfl) hI4973 rfl) hI4975 rfl)), (show Md [21, 22, 23] A A4975 from (Md.tr (Md.tr (Md.tr Md.rf hA4971 rfl) hA4973 rfl) hA4975 rfl)), hV4975, y4974, hF, rfl, rfl⟩ dX11_alike_80
          · skip
            replace hF := FE.neg hF c4967
            refine g_bipush (v := (-2)) hk dX11_alike_43 (by decide) ?_
            exact g_iret hk hR rfl ⟨I, A, (show Md [28, 30, 31, 32, 33, 34] I I from Md.rf), (show Md [21, 22, 23] A A from Md.rf), hIv, (-2), hF, rfl, rfl⟩ dX11_alike_45
noncomputable def bX1_nearestQuery_10 (I : Nat → Int32) (z2 : Int32) (z1 : Int32) : (Int32 → Int32 → Int32 → (Nat → Int32) → (Nat → Nat → Int32) → (Int32 × (Nat → Int32) × (Nat → Nat → Int32))) → Int32 → Int32 → Int32 → (Nat → Int32) → (Nat → Nat → Int32) → (Int32 × (Nat → Int32) × (Nat → Nat → Int32)) := fun kk5167 x4985 x4986 x4987 I4991 A4991 => if (I 19).toInt ≤ x4985.toInt then (x4987, I4991, A4991) else if (fX4_lengthOf_2 I4991 A4991 x4985).2 = 0 then if 0 ≠ z2.toInt then f_lt (x4985 + Int32.ofInt 1) fun y5184 => kk5167 y5184 x4986 x4987 I4991 A4991 else f_bdX (fX0_openBoth I4991 A4991 x4985 z1) fun y5185 I5188 A5188 => if y5185.toInt = 0 then f_lt (x4985 + Int32.ofInt 1) fun y5190 => kk5167 y5190 x4986 x4987 I5188 A5188 else f_bdX (fX2_wholeDistance I5188 A5188) fun y5191 I5192 A5192 => if x4986.toInt ≤ y5191.toInt then f_lt (x4985 + Int32.ofInt 1) fun y5196 => kk5167 y5196 x4986 x4987 I5192 A5192 else f_lt (x4985 + Int32.ofInt 1) fun y5197 => kk5167 y5197 y5191 x4985 I5192 A5192 else f_lt (fX4_lengthOf_2 I4991 A4991 x4985).1 fun y5179 => if y5179.toInt ≠ z2.toInt then f_lt (x4985 + Int32.ofInt 1) fun y5200 => kk5167 y5200 x4986 x4987 I4991 A4991 else f_bdX (fX0_openBoth I4991 A4991 x4985 z1) fun y5201 I5204 A5204 => if y5201.toInt = 0 then f_lt (x4985 + Int32.ofInt 1) fun y5206 => kk5167 y5206 x4986 x4987 I5204 A5204 else f_bdX (fX2_wholeDistance I5204 A5204) fun y5207 I5208 A5208 => if x4986.toInt ≤ y5207.toInt then f_lt (x4985 + Int32.ofInt 1) fun y5212 => kk5167 y5212 x4986 x4987 I5208 A5208 else f_lt (x4985 + Int32.ofInt 1) fun y5213 => kk5167 y5213 y5207 x4985 I5208 A5208
noncomputable def fX1_nearestQuery (I : Nat → Int32) (A : Nat → Nat → Int32) (z1 : Int32) (z2 : Int32) : Int32 × (Nat → Int32) × (Nat → Nat → Int32) := itr_iiiIA dfX (bX1_nearestQuery_10 I z2 z1) FU 0 2147483647 (-2) I A
def wo_k259_X1_nearestQuery : List Cond := [Cond.constant RX1 44 (2147483647), Cond.fieldLink RX1 43 "WarpDesk$Finder" "queries" "LWarpDesk$Queries;", Cond.fieldLink RX1 161 "WarpDesk$Queries" "size" "I", Cond.methodLink RX1 65 yX4_lengthOf, Cond.instanceMethod yX4_lengthOf, Cond.selects RX4 yX4_lengthOf yX4_lengthOf, Cond.initialized RX4, Cond.fieldLink RX1 28 "WarpDesk$Finder" "bench" "LWarpDesk$Bench;", Cond.methodLink RX1 162 yX0_openBoth, Cond.instanceMethod yX0_openBoth, Cond.selects RX0 yX0_openBoth yX0_openBoth, Cond.initialized RX0, Cond.fieldLink RX1 78 "WarpDesk$Bench" "fit" "LWarpDesk$Fit;", Cond.methodLink RX1 113 yX2_wholeDistance, Cond.instanceMethod yX2_wholeDistance, Cond.selects RX2 yX2_wholeDistance yX2_wholeDistance, Cond.initialized RX2]
def wz_k259_X1_nearestQuery : List Cond := .code yX1_nearestQuery cX1_nearestQuery 7 (some .int) :: (wo_k259_X1_nearestQuery ++ (wsX00 ++ (wsX10 ++ (wsX40 ++ (wz_k165_X4_lengthOf ++ (wz_k222_X0_openBoth ++ (wz_k232_X2_wholeDistance ++ ([] : List Cond))))))))
theorem zg_k259_X1_nearestQuery : ∀ w ∈ wz_k259_X1_nearestQuery, goodWord w = true := zg_cons rfl (zg_app (by decide +kernel) (zg_app zgU_wsX00 (zg_app zgU_wsX10 (zg_app zgU_wsX40 (zg_app zg_k165_X4_lengthOf (zg_app zg_k222_X0_openBoth (zg_app zg_k232_X2_wholeDistance zg_nil)))))))
theorem zi_k259_X1_nearestQuery : ∀ w ∈ wz_k259_X1_nearestQuery, w ∈ lw_tbl := zi_cons zw_1100 (zi_app (zi_cons zw_1101 (zi_cons zw_404 (zi_cons zw_221 (zi_cons zw_1102 (zi_cons zw_757 (zi_cons zw_758 (zi_cons zw_108 (zi_cons zw_402 (zi_cons zw_1103 (zi_cons zw_970 (zi_cons zw_971 (zi_cons zw_111 (zi_cons zw_382 (zi_cons zw_1104 (zi_cons zw_993 (zi_cons zw_994 (zi_cons zw_112 zi_nil))))))))))))))))) (zi_app inX0 (zi_app inX1 (zi_app inX4 (zi_app zi_k165_X4_lengthOf (zi_app zi_k222_X0_openBoth (zi_app zi_k232_X2_wholeDistance zi_nil)))))))
set_option maxHeartbeats 4000000 in
set_option maxRecDepth 100000 in
theorem k259_X1_nearestQuery (l : Launch) (D : va_G) (zt : Nat × Nat × Nat × (Nat → Nat) × (Nat → Nat)) (q : Nat → Nat) (d : Nat → ClassId) (I : Nat → Int32) (A : Nat → Nat → Int32) (z1 : Int32) (z2 : Int32) (hIv : IvX I A) : GM l D zt (tyX d) yX1_nearestQuery wz_k259_X1_nearestQuery ({ frames := 6, cells := 0, slots := 0, locals := 131 } : Room) [.ref (q 43), .int z1, .int z2] (wX q d I A) (fun v _ w' => ∃ (I' : Nat → Int32) (A' : Nat → Nat → Int32), Md [28, 30, 31, 32, 33, 34] I I' ∧ Md [21, 22, 23] A A' ∧ IvX I' A' ∧ ∃ y0 : Int32, ((-2) ≤ y0.toInt) ∧ (y0.toInt ≤ 2147483646) ∧ FE (fX1_nearestQuery I A z1 z2) (y0, I', A') ∧ v = some (.int y0) ∧ w' = wX q d I' A') 0 0 := by
  refine GM.of (cc := cX1_nearestQuery) (maxL := 7) (ret := (some .int)) (own := RX1) (lv := [(0, .ref (q 43)), (1, .int z1), (2, .int z2)]) (by decide) rfl rfl (Nat.le_of_ble_eq_true rfl) rfl (fun κ sz hk hR hN => ?_)
  have hin0 : ∀ w ∈ u_ws RX0 TX0 5, w ∈ wz_k259_X1_nearestQuery := fun w h => (List.mem_cons_of_mem _ (List.mem_append_right _ (List.mem_append_left _ h)))
  have hin1 : ∀ w ∈ u_ws RX1 TX1 11, w ∈ wz_k259_X1_nearestQuery := fun w h => (List.mem_cons_of_mem _ (List.mem_append_right _ (List.mem_append_right _ (List.mem_append_left _ h))))
  have hin4 : ∀ w ∈ u_ws RX4 TX4 3, w ∈ wz_k259_X1_nearestQuery := fun w h => (List.mem_cons_of_mem _ (List.mem_append_right _ (List.mem_append_right _ (List.mem_append_right _ (List.mem_append_left _ h)))))
  have hF : FE (fX1_nearestQuery I A z1 z2) (fX1_nearestQuery I A z1 z2) := FE.rf
  refine g_bipush (v := (-2)) hk dX1_nearestQuery_0 (by decide) ?_
  refine g_istore_n (lv' := [(3, .int (-2)), (0, .ref (q 43)), (1, .int z1), (2, .int z2)]) hk dX1_nearestQuery_2 (by decide) rfl ?_
  refine g_ldc (v := 2147483647) hk (List.mem_cons_of_mem _ (List.mem_append_left _ (List.mem_of_getElem? (i := 0) rfl))) dX1_nearestQuery_3 ?_
  refine g_istore (lv' := [(4, .int 2147483647), (3, .int (-2)), (0, .ref (q 43)), (1, .int z1), (2, .int z2)]) hk dX1_nearestQuery_5 (by decide) rfl ?_
  refine g_iconst (v := 0) hk dX1_nearestQuery_7 (by decide) ?_
  refine g_istore (lv' := [(5, .int 0), (4, .int 2147483647), (3, .int (-2)), (0, .ref (q 43)), (1, .int z1), (2, .int z2)]) hk dX1_nearestQuery_8 (by decide) rfl ?_
  have lp5164 : ∀ (n5165 : Nat) (x4985 : Int32) (x4986 : Int32) (x4987 : Int32) (I4991 : Nat → Int32) (A4991 : Nat → Nat → Int32), (Md [28, 30, 31, 32, 33, 34] I I4991) → (Md [21, 22, 23] A A4991) → (IvX I4991 A4991) → (0 ≤ x4985.toInt) → ((-2) ≤ x4987.toInt) → (x4987.toInt ≤ 2147483646) → ((I 19).toInt + 1 - x4985.toInt < (n5165 : Int)) → (0 < n5165) → (FE (fX1_nearestQuery I A z1 z2) (itr_iiiIA dfX (bX1_nearestQuery_10 I z2 z1) n5165 x4985 x4986 x4987 I4991 A4991)) → GW κ 7 0 0 (wX q d I4991 A4991) 10 [(5, .int x4985), (4, .int x4986), (3, .int x4987), (0, .ref (q 43)), (1, .int z1), (2, .int z2)] [] := by
    intro n5165
    induction n5165 with
    | zero =>
      intro x4985 x4986 x4987 I4991 A4991 hI4991 hA4991 hV4991 h5161 h5162 h5163 m5166 m5166z hF
      exact absurd m5166z (Nat.lt_irrefl 0)
    | succ n5165 ih5168 =>
      intro x4985 x4986 x4987 I4991 A4991 hI4991 hA4991 hV4991 h5161 h5162 h5163 m5166 m5166z hF
      replace hF := FE.itr_iiiIA hF
      refine g_iload hk dX1_nearestQuery_10 rfl ?_
      refine g_aload_n hk dX1_nearestQuery_12 rfl ?_
      refine gX_r43_2 hk hin1 (List.mem_cons_of_mem _ (List.mem_append_left _ (List.mem_of_getElem? (i := 1) rfl))) dX1_nearestQuery_13 ?_
      refine gX_i19 (v := (I 19)) hk hin4 (List.mem_cons_of_mem _ (List.mem_append_left _ (List.mem_of_getElem? (i := 2) rfl))) dX1_nearestQuery_16 (hI4991 19 rfl) ?_
      have b5169l := Int32.le_toInt x4985
      have b5169h := Int32.toInt_lt x4985
      have b5170l := Int32.le_toInt (I 19)
      have b5170h := Int32.toInt_lt (I 19)
      refine g_icmp_ge (tgt := 80) (a := x4985.toInt) (b := (I 19).toInt) hk dX1_nearestQuery_19 (by decide) rfl rfl (fun c5171 => ?_) (fun c5171 => ?_)
      · skip
        replace hF := FE.pos hF c5171
        refine g_iload_n hk dX1_nearestQuery_80 rfl ?_
        exact g_iret hk hR rfl ⟨I4991, A4991, (show Md [28, 30, 31, 32, 33, 34] I I4991 from (Md.tr Md.rf hI4991 rfl)), (show Md [21, 22, 23] A A4991 from (Md.tr Md.rf hA4991 rfl)), hV4991, x4987, (by omega), (by omega), hF, rfl, rfl⟩ dX1_nearestQuery_81
      · skip
        replace hF := FE.neg hF c5171
        refine g_aload_n hk dX1_nearestQuery_22 rfl ?_
        refine gX_r43_2 hk hin1 (List.mem_cons_of_mem _ (List.mem_append_left _ (List.mem_of_getElem? (i := 1) rfl))) dX1_nearestQuery_23 ?_
        refine g_iload hk dX1_nearestQuery_26 rfl ?_
        refine g_callV (n := 1) hk (k182_X4_lengthOf l D zt q d I4991 A4991 x4985 hV4991) (SP.same _) (fun _ h => h) (gi_V (List.mem_cons_of_mem _ (List.mem_append_left _ (List.mem_of_getElem? (i := 3) rfl))) (List.mem_cons_of_mem _ (List.mem_append_left _ (List.mem_of_getElem? (i := 4) rfl))) (List.mem_cons_of_mem _ (List.mem_append_left _ (List.mem_of_getElem? (i := 5) rfl))) (List.mem_cons_of_mem _ (List.mem_append_left _ (List.mem_of_getElem? (i := 6) rfl))) (gi_sub (fun w h => (List.mem_cons_of_mem _ (List.mem_append_right _ (List.mem_append_right _ (List.mem_append_right _ (List.mem_append_right _ (List.mem_append_left _ h))))))) zg_k165_X4_lengthOf)) rfl rfl rfl (by decide +kernel) ⟨Nat.le_of_ble_eq_true rfl, Nat.le_of_ble_eq_true rfl⟩ 15 rfl rfl rfl rfl (Nat.le_of_ble_eq_true rfl) ⟨Nat.le_of_ble_eq_true rfl, Nat.le_of_ble_eq_true rfl⟩ dX1_nearestQuery_28 (fun v ty' w' hp hk' => ?_)
        rcases hp with ⟨hC, rfl, rfl⟩ | ⟨y5179, c5173, c5174, c5175, c5176, c5177, c5178, c5180, c5181, hC, rfl, rfl⟩
        · skip
          replace hF := FE.pos hF (fe_2 hC)
          show GW κ 7 0 0 (wX q d I4991 A4991) 31 [(5, .int x4985), (4, .int x4986), (3, .int x4987), (0, .ref (q 43)), (1, .int z1), (2, .int z2)] [.int 0]
          refine g_iload_n hk dX1_nearestQuery_31 rfl ?_
          have b5182l := Int32.le_toInt z2
          have b5182h := Int32.toInt_lt z2
          refine g_icmp_ne (tgt := 74) (a := 0) (b := z2.toInt) hk dX1_nearestQuery_32 (by decide) rfl rfl (fun c5183 => ?_) (fun c5183 => ?_)
          · skip
            replace hF := FE.pos hF c5183
            obtain ⟨y5184, ey5184⟩ : ∃ y : Int32, y = x4985 + Int32.ofInt 1 := ⟨_, rfl⟩
            replace hF := FE.lt hF ey5184
            have hy5184 : y5184.toInt = x4985.toInt + 1 := i32_add ey5184 rfl (by decide) (by omega) (by omega)
            refine g_iinc (v := y5184) (lv' := [(5, .int y5184), (4, .int x4986), (3, .int x4987), (0, .ref (q 43)), (1, .int z1), (2, .int z2)]) hk 0 dX1_nearestQuery_74 rfl ey5184.symm (by decide) rfl ?_
            refine g_goto (tgt := 10) hk dX1_nearestQuery_77 (by decide) ?_
            exact g_lv (List.forall_mem_cons.mpr ⟨List.mem_of_getElem? (i := 0) rfl, (List.forall_mem_cons.mpr ⟨List.mem_of_getElem? (i := 1) rfl, (List.forall_mem_cons.mpr ⟨List.mem_of_getElem? (i := 2) rfl, (List.forall_mem_cons.mpr ⟨List.mem_of_getElem? (i := 3) rfl, (List.forall_mem_cons.mpr ⟨List.mem_of_getElem? (i := 4) rfl, (List.forall_mem_cons.mpr ⟨List.mem_of_getElem? (i := 5) rfl, (fun _ h => absurd h List.not_mem_nil)⟩)⟩)⟩)⟩)⟩)⟩) (ih5168 y5184 x4986 x4987 I4991 A4991 (show Md [28, 30, 31, 32, 33, 34] I I4991 from Md.tr hI4991 (show Md [28, 30, 31, 32, 33, 34] I4991 I4991 from Md.rf) rfl) (show Md [21, 22, 23] A A4991 from Md.tr hA4991 (show Md [21, 22, 23] A4991 A4991 from Md.rf) rfl) hV4991 (by omega) (by omega) (by omega) (by omega) (by omega) hF)
          · skip
            replace hF := FE.neg hF c5183
            refine g_aload_n hk dX1_nearestQuery_35 rfl ?_
            refine gX_r43_0 hk hin1 (List.mem_cons_of_mem _ (List.mem_append_left _ (List.mem_of_getElem? (i := 7) rfl))) dX1_nearestQuery_36 ?_
            refine g_iload hk dX1_nearestQuery_39 rfl ?_
            refine g_iload_n hk dX1_nearestQuery_41 rfl ?_
            refine g_callV (n := 2) hk (k222_X0_openBoth l D zt q d I4991 A4991 x4985 z1 hV4991) (SP.same _) (fun _ h => h) (gi_V (List.mem_cons_of_mem _ (List.mem_append_left _ (List.mem_of_getElem? (i := 8) rfl))) (List.mem_cons_of_mem _ (List.mem_append_left _ (List.mem_of_getElem? (i := 9) rfl))) (List.mem_cons_of_mem _ (List.mem_append_left _ (List.mem_of_getElem? (i := 10) rfl))) (List.mem_cons_of_mem _ (List.mem_append_left _ (List.mem_of_getElem? (i := 11) rfl))) (gi_sub (fun w h => (List.mem_cons_of_mem _ (List.mem_append_right _ (List.mem_append_right _ (List.mem_append_right _ (List.mem_append_right _ (List.mem_append_right _ (List.mem_append_left _ h)))))))) zg_k222_X0_openBoth)) rfl rfl rfl (by decide +kernel) ⟨Nat.le_of_ble_eq_true rfl, Nat.le_of_ble_eq_true rfl⟩ 37 rfl rfl rfl rfl (Nat.le_of_ble_eq_true rfl) ⟨Nat.le_of_ble_eq_true rfl, Nat.le_of_ble_eq_true rfl⟩ dX1_nearestQuery_42 (fun v ty' w' hp hk' => ?_)
            obtain ⟨I5188, A5188, hI5188, hA5188, hV5188, y5185, c5186, c5187, hC, rfl, rfl⟩ := hp
            replace hF := FE.bdX hF hC
            show GW κ 7 0 0 (wX q d I5188 A5188) 45 [(5, .int x4985), (4, .int x4986), (3, .int x4987), (0, .ref (q 43)), (1, .int z1), (2, .int z2)] [.int y5185]
            refine g_if_eq (tgt := 74) (a := y5185.toInt) hk dX1_nearestQuery_45 (by decide) rfl (fun c5189 => ?_) (fun c5189 => ?_)
            · skip
              replace hF := FE.pos hF c5189
              obtain ⟨y5190, ey5190⟩ : ∃ y : Int32, y = x4985 + Int32.ofInt 1 := ⟨_, rfl⟩
              replace hF := FE.lt hF ey5190
              have hy5190 : y5190.toInt = x4985.toInt + 1 := i32_add ey5190 rfl (by decide) (by omega) (by omega)
              refine g_iinc (v := y5190) (lv' := [(5, .int y5190), (4, .int x4986), (3, .int x4987), (0, .ref (q 43)), (1, .int z1), (2, .int z2)]) hk 0 dX1_nearestQuery_74 rfl ey5190.symm (by decide) rfl ?_
              refine g_goto (tgt := 10) hk dX1_nearestQuery_77 (by decide) ?_
              exact g_lv (List.forall_mem_cons.mpr ⟨List.mem_of_getElem? (i := 0) rfl, (List.forall_mem_cons.mpr ⟨List.mem_of_getElem? (i := 1) rfl, (List.forall_mem_cons.mpr ⟨List.mem_of_getElem? (i := 2) rfl, (List.forall_mem_cons.mpr ⟨List.mem_of_getElem? (i := 3) rfl, (List.forall_mem_cons.mpr ⟨List.mem_of_getElem? (i := 4) rfl, (List.forall_mem_cons.mpr ⟨List.mem_of_getElem? (i := 5) rfl, (fun _ h => absurd h List.not_mem_nil)⟩)⟩)⟩)⟩)⟩)⟩) (ih5168 y5190 x4986 x4987 I5188 A5188 (show Md [28, 30, 31, 32, 33, 34] I I5188 from Md.tr hI4991 (show Md [28, 30, 31, 32, 33, 34] I4991 I5188 from (Md.tr Md.rf hI5188 rfl)) rfl) (show Md [21, 22, 23] A A5188 from Md.tr hA4991 (show Md [21, 22, 23] A4991 A5188 from (Md.tr Md.rf hA5188 rfl)) rfl) hV5188 (by omega) (by omega) (by omega) (by omega) (by omega) hF)
            · skip
              replace hF := FE.neg hF c5189
              refine g_aload_n hk dX1_nearestQuery_48 rfl ?_
              refine gX_r43_0 hk hin1 (List.mem_cons_of_mem _ (List.mem_append_left _ (List.mem_of_getElem? (i := 7) rfl))) dX1_nearestQuery_49 ?_
              refine gX_r37_3 hk hin0 (List.mem_cons_of_mem _ (List.mem_append_left _ (List.mem_of_getElem? (i := 12) rfl))) dX1_nearestQuery_52 ?_
              refine g_callV (n := 0) hk (k232_X2_wholeDistance l D zt q d I5188 A5188  hV5188) (SP.same _) (fun _ h => h) (gi_V (List.mem_cons_of_mem _ (List.mem_append_left _ (List.mem_of_getElem? (i := 13) rfl))) (List.mem_cons_of_mem _ (List.mem_append_left _ (List.mem_of_getElem? (i := 14) rfl))) (List.mem_cons_of_mem _ (List.mem_append_left _ (List.mem_of_getElem? (i := 15) rfl))) (List.mem_cons_of_mem _ (List.mem_append_left _ (List.mem_of_getElem? (i := 16) rfl))) (gi_sub (fun w h => (List.mem_cons_of_mem _ (List.mem_append_right _ (List.mem_append_right _ (List.mem_append_right _ (List.mem_append_right _ (List.mem_append_right _ (List.mem_append_right _ (List.mem_append_left _ h))))))))) zg_k232_X2_wholeDistance)) rfl rfl rfl (by decide +kernel) ⟨Nat.le_of_ble_eq_true rfl, Nat.le_of_ble_eq_true rfl⟩ 38 rfl rfl rfl rfl (Nat.le_of_ble_eq_true rfl) ⟨Nat.le_of_ble_eq_true rfl, Nat.le_of_ble_eq_true rfl⟩ dX1_nearestQuery_55 (fun v ty' w' hp hk' => ?_)
              obtain ⟨I5192, A5192, hI5192, hA5192, hV5192, y5191, hC, rfl, rfl⟩ := hp
              replace hF := FE.bdX hF hC
              show GW κ 7 0 0 (wX q d I5192 A5192) 58 [(5, .int x4985), (4, .int x4986), (3, .int x4987), (0, .ref (q 43)), (1, .int z1), (2, .int z2)] [.int y5191]
              refine g_istore (lv' := [(6, .int y5191), (5, .int x4985), (4, .int x4986), (3, .int x4987), (0, .ref (q 43)), (1, .int z1), (2, .int z2)]) hk dX1_nearestQuery_58 (by decide) rfl ?_
              refine g_iload hk dX1_nearestQuery_60 rfl ?_
              refine g_iload hk dX1_nearestQuery_62 rfl ?_
              have b5193l := Int32.le_toInt y5191
              have b5193h := Int32.toInt_lt y5191
              have b5194l := Int32.le_toInt x4986
              have b5194h := Int32.toInt_lt x4986
              refine g_icmp_ge (tgt := 74) (a := y5191.toInt) (b := x4986.toInt) hk dX1_nearestQuery_64 (by decide) rfl rfl (fun c5195 => ?_) (fun c5195 => ?_)
              · skip
                replace hF := FE.pos hF c5195
                obtain ⟨y5196, ey5196⟩ : ∃ y : Int32, y = x4985 + Int32.ofInt 1 := ⟨_, rfl⟩
                replace hF := FE.lt hF ey5196
                have hy5196 : y5196.toInt = x4985.toInt + 1 := i32_add ey5196 rfl (by decide) (by omega) (by omega)
                refine g_iinc (v := y5196) (lv' := [(5, .int y5196), (6, .int y5191), (4, .int x4986), (3, .int x4987), (0, .ref (q 43)), (1, .int z1), (2, .int z2)]) hk 1 dX1_nearestQuery_74 rfl ey5196.symm (by decide) rfl ?_
                refine g_goto (tgt := 10) hk dX1_nearestQuery_77 (by decide) ?_
                exact g_lv (List.forall_mem_cons.mpr ⟨List.mem_of_getElem? (i := 0) rfl, (List.forall_mem_cons.mpr ⟨List.mem_of_getElem? (i := 2) rfl, (List.forall_mem_cons.mpr ⟨List.mem_of_getElem? (i := 3) rfl, (List.forall_mem_cons.mpr ⟨List.mem_of_getElem? (i := 4) rfl, (List.forall_mem_cons.mpr ⟨List.mem_of_getElem? (i := 5) rfl, (List.forall_mem_cons.mpr ⟨List.mem_of_getElem? (i := 6) rfl, (fun _ h => absurd h List.not_mem_nil)⟩)⟩)⟩)⟩)⟩)⟩) (ih5168 y5196 x4986 x4987 I5192 A5192 (show Md [28, 30, 31, 32, 33, 34] I I5192 from Md.tr hI4991 (show Md [28, 30, 31, 32, 33, 34] I4991 I5192 from (Md.tr (Md.tr Md.rf hI5188 rfl) hI5192 rfl)) rfl) (show Md [21, 22, 23] A A5192 from Md.tr hA4991 (show Md [21, 22, 23] A4991 A5192 from (Md.tr (Md.tr Md.rf hA5188 rfl) hA5192 rfl)) rfl) hV5192 (by omega) (by omega) (by omega) (by omega) (by omega) hF)
              · skip
                replace hF := FE.neg hF c5195
                refine g_iload hk dX1_nearestQuery_67 rfl ?_
                refine g_istore (lv' := [(4, .int y5191), (6, .int y5191), (5, .int x4985), (3, .int x4987), (0, .ref (q 43)), (1, .int z1), (2, .int z2)]) hk dX1_nearestQuery_69 (by decide) rfl ?_
                refine g_iload hk dX1_nearestQuery_71 rfl ?_
                refine g_istore_n (lv' := [(3, .int x4985), (4, .int y5191), (6, .int y5191), (5, .int x4985), (0, .ref (q 43)), (1, .int z1), (2, .int z2)]) hk dX1_nearestQuery_73 (by decide) rfl ?_
                obtain ⟨y5197, ey5197⟩ : ∃ y : Int32, y = x4985 + Int32.ofInt 1 := ⟨_, rfl⟩
                replace hF := FE.lt hF ey5197
                have hy5197 : y5197.toInt = x4985.toInt + 1 := i32_add ey5197 rfl (by decide) (by omega) (by omega)
                refine g_iinc (v := y5197) (lv' := [(5, .int y5197), (3, .int x4985), (4, .int y5191), (6, .int y5191), (0, .ref (q 43)), (1, .int z1), (2, .int z2)]) hk 3 dX1_nearestQuery_74 rfl ey5197.symm (by decide) rfl ?_
                refine g_goto (tgt := 10) hk dX1_nearestQuery_77 (by decide) ?_
                exact g_lv (List.forall_mem_cons.mpr ⟨List.mem_of_getElem? (i := 0) rfl, (List.forall_mem_cons.mpr ⟨List.mem_of_getElem? (i := 2) rfl, (List.forall_mem_cons.mpr ⟨List.mem_of_getElem? (i := 1) rfl, (List.forall_mem_cons.mpr ⟨List.mem_of_getElem? (i := 4) rfl, (List.forall_mem_cons.mpr ⟨List.mem_of_getElem? (i := 5) rfl, (List.forall_mem_cons.mpr ⟨List.mem_of_getElem? (i := 6) rfl, (fun _ h => absurd h List.not_mem_nil)⟩)⟩)⟩)⟩)⟩)⟩) (ih5168 y5197 y5191 x4985 I5192 A5192 (show Md [28, 30, 31, 32, 33, 34] I I5192 from Md.tr hI4991 (show Md [28, 30, 31, 32, 33, 34] I4991 I5192 from (Md.tr (Md.tr Md.rf hI5188 rfl) hI5192 rfl)) rfl) (show Md [21, 22, 23] A A5192 from Md.tr hA4991 (show Md [21, 22, 23] A4991 A5192 from (Md.tr (Md.tr Md.rf hA5188 rfl) hA5192 rfl)) rfl) hV5192 (by omega) (by omega) (by omega) (by omega) (by omega) hF)
        · skip
          replace hF := FE.neg hF (fe_ne2 hC (by decide))
          replace hF := FE.lt hF (fe_1 hC)
          show GW κ 7 0 0 (wX q d I4991 A4991) 31 [(5, .int x4985), (4, .int x4986), (3, .int x4987), (0, .ref (q 43)), (1, .int z1), (2, .int z2)] [.int y5179]
          refine g_iload_n hk dX1_nearestQuery_31 rfl ?_
          have b5198l := Int32.le_toInt z2
          have b5198h := Int32.toInt_lt z2
          refine g_icmp_ne (tgt := 74) (a := y5179.toInt) (b := z2.toInt) hk dX1_nearestQuery_32 (by decide) rfl rfl (fun c5199 => ?_) (fun c5199 => ?_)
          · skip
            replace hF := FE.pos hF c5199
            obtain ⟨y5200, ey5200⟩ : ∃ y : Int32, y = x4985 + Int32.ofInt 1 := ⟨_, rfl⟩
            replace hF := FE.lt hF ey5200
            have hy5200 : y5200.toInt = x4985.toInt + 1 := i32_add ey5200 rfl (by decide) (by omega) (by omega)
            refine g_iinc (v := y5200) (lv' := [(5, .int y5200), (4, .int x4986), (3, .int x4987), (0, .ref (q 43)), (1, .int z1), (2, .int z2)]) hk 0 dX1_nearestQuery_74 rfl ey5200.symm (by decide) rfl ?_
            refine g_goto (tgt := 10) hk dX1_nearestQuery_77 (by decide) ?_
            exact g_lv (List.forall_mem_cons.mpr ⟨List.mem_of_getElem? (i := 0) rfl, (List.forall_mem_cons.mpr ⟨List.mem_of_getElem? (i := 1) rfl, (List.forall_mem_cons.mpr ⟨List.mem_of_getElem? (i := 2) rfl, (List.forall_mem_cons.mpr ⟨List.mem_of_getElem? (i := 3) rfl, (List.forall_mem_cons.mpr ⟨List.mem_of_getElem? (i := 4) rfl, (List.forall_mem_cons.mpr ⟨List.mem_of_getElem? (i := 5) rfl, (fun _ h => absurd h List.not_mem_nil)⟩)⟩)⟩)⟩)⟩)⟩) (ih5168 y5200 x4986 x4987 I4991 A4991 (show Md [28, 30, 31, 32, 33, 34] I I4991 from Md.tr hI4991 (show Md [28, 30, 31, 32, 33, 34] I4991 I4991 from Md.rf) rfl) (show Md [21, 22, 23] A A4991 from Md.tr hA4991 (show Md [21, 22, 23] A4991 A4991 from Md.rf) rfl) hV4991 (by omega) (by omega) (by omega) (by omega) (by omega) hF)
          · skip
            replace hF := FE.neg hF c5199
            refine g_aload_n hk dX1_nearestQuery_35 rfl ?_
            refine gX_r43_0 hk hin1 (List.mem_cons_of_mem _ (List.mem_append_left _ (List.mem_of_getElem? (i := 7) rfl))) dX1_nearestQuery_36 ?_
            refine g_iload hk dX1_nearestQuery_39 rfl ?_
            refine g_iload_n hk dX1_nearestQuery_41 rfl ?_
            refine g_callV (n := 2) hk (k222_X0_openBoth l D zt q d I4991 A4991 x4985 z1 hV4991) (SP.same _) (fun _ h => h) (gi_V (List.mem_cons_of_mem _ (List.mem_append_left _ (List.mem_of_getElem? (i := 8) rfl))) (List.mem_cons_of_mem _ (List.mem_append_left _ (List.mem_of_getElem? (i := 9) rfl))) (List.mem_cons_of_mem _ (List.mem_append_left _ (List.mem_of_getElem? (i := 10) rfl))) (List.mem_cons_of_mem _ (List.mem_append_left _ (List.mem_of_getElem? (i := 11) rfl))) (gi_sub (fun w h => (List.mem_cons_of_mem _ (List.mem_append_right _ (List.mem_append_right _ (List.mem_append_right _ (List.mem_append_right _ (List.mem_append_right _ (List.mem_append_left _ h)))))))) zg_k222_X0_openBoth)) rfl rfl rfl (by decide +kernel) ⟨Nat.le_of_ble_eq_true rfl, Nat.le_of_ble_eq_true rfl⟩ 37 rfl rfl rfl rfl (Nat.le_of_ble_eq_true rfl) ⟨Nat.le_of_ble_eq_true rfl, Nat.le_of_ble_eq_true rfl⟩ dX1_nearestQuery_42 (fun v ty' w' hp hk' => ?_)
            obtain ⟨I5204, A5204, hI5204, hA5204, hV5204, y5201, c5202, c5203, hC, rfl, rfl⟩ := hp
            replace hF := FE.bdX hF hC
            show GW κ 7 0 0 (wX q d I5204 A5204) 45 [(5, .int x4985), (4, .int x4986), (3, .int x4987), (0, .ref (q 43)), (1, .int z1), (2, .int z2)] [.int y5201]
            refine g_if_eq (tgt := 74) (a := y5201.toInt) hk dX1_nearestQuery_45 (by decide) rfl (fun c5205 => ?_) (fun c5205 => ?_)
            · skip
              replace hF := FE.pos hF c5205
              obtain ⟨y5206, ey5206⟩ : ∃ y : Int32, y = x4985 + Int32.ofInt 1 := ⟨_, rfl⟩
              replace hF := FE.lt hF ey5206
              have hy5206 : y5206.toInt = x4985.toInt + 1 := i32_add ey5206 rfl (by decide) (by omega) (by omega)
              refine g_iinc (v := y5206) (lv' := [(5, .int y5206), (4, .int x4986), (3, .int x4987), (0, .ref (q 43)), (1, .int z1), (2, .int z2)]) hk 0 dX1_nearestQuery_74 rfl ey5206.symm (by decide) rfl ?_
              refine g_goto (tgt := 10) hk dX1_nearestQuery_77 (by decide) ?_
              exact g_lv (List.forall_mem_cons.mpr ⟨List.mem_of_getElem? (i := 0) rfl, (List.forall_mem_cons.mpr ⟨List.mem_of_getElem? (i := 1) rfl, (List.forall_mem_cons.mpr ⟨List.mem_of_getElem? (i := 2) rfl, (List.forall_mem_cons.mpr ⟨List.mem_of_getElem? (i := 3) rfl, (List.forall_mem_cons.mpr ⟨List.mem_of_getElem? (i := 4) rfl, (List.forall_mem_cons.mpr ⟨List.mem_of_getElem? (i := 5) rfl, (fun _ h => absurd h List.not_mem_nil)⟩)⟩)⟩)⟩)⟩)⟩) (ih5168 y5206 x4986 x4987 I5204 A5204 (show Md [28, 30, 31, 32, 33, 34] I I5204 from Md.tr hI4991 (show Md [28, 30, 31, 32, 33, 34] I4991 I5204 from (Md.tr Md.rf hI5204 rfl)) rfl) (show Md [21, 22, 23] A A5204 from Md.tr hA4991 (show Md [21, 22, 23] A4991 A5204 from (Md.tr Md.rf hA5204 rfl)) rfl) hV5204 (by omega) (by omega) (by omega) (by omega) (by omega) hF)
            · skip
              replace hF := FE.neg hF c5205
              refine g_aload_n hk dX1_nearestQuery_48 rfl ?_
              refine gX_r43_0 hk hin1 (List.mem_cons_of_mem _ (List.mem_append_left _ (List.mem_of_getElem? (i := 7) rfl))) dX1_nearestQuery_49 ?_
              refine gX_r37_3 hk hin0 (List.mem_cons_of_mem _ (List.mem_append_left _ (List.mem_of_getElem? (i := 12) rfl))) dX1_nearestQuery_52 ?_
              refine g_callV (n := 0) hk (k232_X2_wholeDistance l D zt q d I5204 A5204  hV5204) (SP.same _) (fun _ h => h) (gi_V (List.mem_cons_of_mem _ (List.mem_append_left _ (List.mem_of_getElem? (i := 13) rfl))) (List.mem_cons_of_mem _ (List.mem_append_left _ (List.mem_of_getElem? (i := 14) rfl))) (List.mem_cons_of_mem _ (List.mem_append_left _ (List.mem_of_getElem? (i := 15) rfl))) (List.mem_cons_of_mem _ (List.mem_append_left _ (List.mem_of_getElem? (i := 16) rfl))) (gi_sub (fun w h => (List.mem_cons_of_mem _ (List.mem_append_right _ (List.mem_append_right _ (List.mem_append_right _ (List.mem_append_right _ (List.mem_append_right _ (List.mem_append_right _ (List.mem_append_left _ h))))))))) zg_k232_X2_wholeDistance)) rfl rfl rfl (by decide +kernel) ⟨Nat.le_of_ble_eq_true rfl, Nat.le_of_ble_eq_true rfl⟩ 38 rfl rfl rfl rfl (Nat.le_of_ble_eq_true rfl) ⟨Nat.le_of_ble_eq_true rfl, Nat.le_of_ble_eq_true rfl⟩ dX1_nearestQuery_55 (fun v ty' w' hp hk' => ?_)
              obtain ⟨I5208, A5208, hI5208, hA5208, hV5208, y5207, hC, rfl, rfl⟩ := hp
              replace hF := FE.bdX hF hC
              show GW κ 7 0 0 (wX q d I5208 A5208) 58 [(5, .int x4985), (4, .int x4986), (3, .int x4987), (0, .ref (q 43)), (1, .int z1), (2, .int z2)] [.int y5207]
              refine g_istore (lv' := [(6, .int y5207), (5, .int x4985), (4, .int x4986), (3, .int x4987), (0, .ref (q 43)), (1, .int z1), (2, .int z2)]) hk dX1_nearestQuery_58 (by decide) rfl ?_
              refine g_iload hk dX1_nearestQuery_60 rfl ?_
              refine g_iload hk dX1_nearestQuery_62 rfl ?_
              have b5209l := Int32.le_toInt y5207
              have b5209h := Int32.toInt_lt y5207
              have b5210l := Int32.le_toInt x4986
              have b5210h := Int32.toInt_lt x4986
              refine g_icmp_ge (tgt := 74) (a := y5207.toInt) (b := x4986.toInt) hk dX1_nearestQuery_64 (by decide) rfl rfl (fun c5211 => ?_) (fun c5211 => ?_)
              · skip
                replace hF := FE.pos hF c5211
                obtain ⟨y5212, ey5212⟩ : ∃ y : Int32, y = x4985 + Int32.ofInt 1 := ⟨_, rfl⟩
                replace hF := FE.lt hF ey5212
                have hy5212 : y5212.toInt = x4985.toInt + 1 := i32_add ey5212 rfl (by decide) (by omega) (by omega)
                refine g_iinc (v := y5212) (lv' := [(5, .int y5212), (6, .int y5207), (4, .int x4986), (3, .int x4987), (0, .ref (q 43)), (1, .int z1), (2, .int z2)]) hk 1 dX1_nearestQuery_74 rfl ey5212.symm (by decide) rfl ?_
                refine g_goto (tgt := 10) hk dX1_nearestQuery_77 (by decide) ?_
                exact g_lv (List.forall_mem_cons.mpr ⟨List.mem_of_getElem? (i := 0) rfl, (List.forall_mem_cons.mpr ⟨List.mem_of_getElem? (i := 2) rfl, (List.forall_mem_cons.mpr ⟨List.mem_of_getElem? (i := 3) rfl, (List.forall_mem_cons.mpr ⟨List.mem_of_getElem? (i := 4) rfl, (List.forall_mem_cons.mpr ⟨List.mem_of_getElem? (i := 5) rfl, (List.forall_mem_cons.mpr ⟨List.mem_of_getElem? (i := 6) rfl, (fun _ h => absurd h List.not_mem_nil)⟩)⟩)⟩)⟩)⟩)⟩) (ih5168 y5212 x4986 x4987 I5208 A5208 (show Md [28, 30, 31, 32, 33, 34] I I5208 from Md.tr hI4991 (show Md [28, 30, 31, 32, 33, 34] I4991 I5208 from (Md.tr (Md.tr Md.rf hI5204 rfl) hI5208 rfl)) rfl) (show Md [21, 22, 23] A A5208 from Md.tr hA4991 (show Md [21, 22, 23] A4991 A5208 from (Md.tr (Md.tr Md.rf hA5204 rfl) hA5208 rfl)) rfl) hV5208 (by omega) (by omega) (by omega) (by omega) (by omega) hF)
              · skip
                replace hF := FE.neg hF c5211
                refine g_iload hk dX1_nearestQuery_67 rfl ?_
                refine g_istore (lv' := [(4, .int y5207), (6, .int y5207), (5, .int x4985), (3, .int x4987), (0, .ref (q 43)), (1, .int z1), (2, .int z2)]) hk dX1_nearestQuery_69 (by decide) rfl ?_
                refine g_iload hk dX1_nearestQuery_71 rfl ?_
                refine g_istore_n (lv' := [(3, .int x4985), (4, .int y5207), (6, .int y5207), (5, .int x4985), (0, .ref (q 43)), (1, .int z1), (2, .int z2)]) hk dX1_nearestQuery_73 (by decide) rfl ?_
                obtain ⟨y5213, ey5213⟩ : ∃ y : Int32, y = x4985 + Int32.ofInt 1 := ⟨_, rfl⟩
                replace hF := FE.lt hF ey5213
                have hy5213 : y5213.toInt = x4985.toInt + 1 := i32_add ey5213 rfl (by decide) (by omega) (by omega)
                refine g_iinc (v := y5213) (lv' := [(5, .int y5213), (3, .int x4985), (4, .int y5207), (6, .int y5207), (0, .ref (q 43)), (1, .int z1), (2, .int z2)]) hk 3 dX1_nearestQuery_74 rfl ey5213.symm (by decide) rfl ?_
                refine g_goto (tgt := 10) hk dX1_nearestQuery_77 (by decide) ?_
                exact g_lv (List.forall_mem_cons.mpr ⟨List.mem_of_getElem? (i := 0) rfl, (List.forall_mem_cons.mpr ⟨List.mem_of_getElem? (i := 2) rfl, (List.forall_mem_cons.mpr ⟨List.mem_of_getElem? (i := 1) rfl, (List.forall_mem_cons.mpr ⟨List.mem_of_getElem? (i := 4) rfl, (List.forall_mem_cons.mpr ⟨List.mem_of_getElem? (i := 5) rfl, (List.forall_mem_cons.mpr ⟨List.mem_of_getElem? (i := 6) rfl, (fun _ h => absurd h List.not_mem_nil)⟩)⟩)⟩)⟩)⟩)⟩) (ih5168 y5213 y5207 x4985 I5208 A5208 (show Md [28, 30, 31, 32, 33, 34] I I5208 from Md.tr hI4991 (show Md [28, 30, 31, 32, 33, 34] I4991 I5208 from (Md.tr (Md.tr Md.rf hI5204 rfl) hI5208 rfl)) rfl) (show Md [21, 22, 23] A A5208 from Md.tr hA4991 (show Md [21, 22, 23] A4991 A5208 from (Md.tr (Md.tr Md.rf hA5204 rfl) hA5208 rfl)) rfl) hV5208 (by omega) (by omega) (by omega) (by omega) (by omega) hF)
  have k5215 : (0 : Int32).toInt = 0 := rfl
  have k5216 : (2147483647 : Int32).toInt = 2147483647 := rfl
  have k5217 : ((-2) : Int32).toInt = (-2) := rfl
  have b5218 := Int32.le_toInt (I 19)
  have b5219 := Int32.toInt_lt (I 19)
  have n5214a : (I 19).toInt + 1 - 0 < (FU : Int) := by have := FU_eq; omega
  have n5214b : 0 < FU := by have := FU_eq; omega
  exact lp5164 FU 0 2147483647 (-2) I A Md.rf Md.rf hIv (by omega) (by omega) (by omega) n5214a n5214b hF
noncomputable def fX11_whose (I : Nat → Int32) (A : Nat → Nat → Int32) (z1 : Int32) (z2 : Int32) : Int32 × (Nat → Int32) × (Nat → Nat → Int32) := if fX6_hasWindow I A z1 z2 = 0 then ((-1), I, A) else f_bdX (fX1_nearestQuery I A z1 z2) fun y5220 I5223 A5223 => (y5220, I5223, A5223)
def wo_k258_X11_whose : List Cond := [Cond.fieldLink RX11 28 "WarpDesk" "series" "LWarpDesk$Series;", Cond.methodLink RX11 183 yX6_hasWindow, Cond.instanceMethod yX6_hasWindow, Cond.selects RX6 yX6_hasWindow yX6_hasWindow, Cond.initialized RX6, Cond.fieldLink RX11 74 "WarpDesk" "finder" "LWarpDesk$Finder;", Cond.methodLink RX11 263 yX1_nearestQuery, Cond.instanceMethod yX1_nearestQuery, Cond.selects RX1 yX1_nearestQuery yX1_nearestQuery, Cond.initialized RX1]
def wz_k258_X11_whose : List Cond := .code yX11_whose cX11_whose 3 (some .int) :: (wo_k258_X11_whose ++ (wsX110 ++ (wz_k207_X6_hasWindow ++ (wz_k259_X1_nearestQuery ++ ([] : List Cond)))))
theorem zg_k258_X11_whose : ∀ w ∈ wz_k258_X11_whose, goodWord w = true := zg_cons rfl (zg_app (by decide +kernel) (zg_app zgU_wsX110 (zg_app zg_k207_X6_hasWindow (zg_app zg_k259_X1_nearestQuery zg_nil))))
theorem zi_k258_X11_whose : ∀ w ∈ wz_k258_X11_whose, w ∈ lw_tbl := zi_cons zw_1096 (zi_app (zi_cons zw_489 (zi_cons zw_901 (zi_cons zw_902 (zi_cons zw_903 (zi_cons zw_109 (zi_cons zw_495 (zi_cons zw_1097 (zi_cons zw_1098 (zi_cons zw_1099 (zi_cons zw_113 zi_nil)))))))))) (zi_app inX11 (zi_app zi_k207_X6_hasWindow (zi_app zi_k259_X1_nearestQuery zi_nil))))
set_option maxHeartbeats 4000000 in
set_option maxRecDepth 100000 in
theorem k258_X11_whose (l : Launch) (D : va_G) (zt : Nat × Nat × Nat × (Nat → Nat) × (Nat → Nat)) (q : Nat → Nat) (d : Nat → ClassId) (I : Nat → Int32) (A : Nat → Nat → Int32) (z1 : Int32) (z2 : Int32) (hIv : IvX I A) : GM l D zt (tyX d) yX11_whose wz_k258_X11_whose ({ frames := 7, cells := 0, slots := 0, locals := 157 } : Room) [.ref (q 0), .int z1, .int z2] (wX q d I A) (fun v _ w' => ∃ (I' : Nat → Int32) (A' : Nat → Nat → Int32), Md [28, 30, 31, 32, 33, 34] I I' ∧ Md [21, 22, 23] A A' ∧ IvX I' A' ∧ ∃ y0 : Int32, ((-2) ≤ y0.toInt) ∧ (y0.toInt ≤ 2147483646) ∧ FE (fX11_whose I A z1 z2) (y0, I', A') ∧ v = some (.int y0) ∧ w' = wX q d I' A') 0 0 := by
  refine GM.of (cc := cX11_whose) (maxL := 3) (ret := (some .int)) (own := RX11) (lv := [(0, .ref (q 0)), (1, .int z1), (2, .int z2)]) (by decide) rfl rfl (Nat.le_of_ble_eq_true rfl) rfl (fun κ sz hk hR hN => ?_)
  have hin11 : ∀ w ∈ u_ws RX11 TX11 10, w ∈ wz_k258_X11_whose := fun w h => (List.mem_cons_of_mem _ (List.mem_append_right _ (List.mem_append_left _ h)))
  have hF : FE (fX11_whose I A z1 z2) (fX11_whose I A z1 z2) := FE.rf
  refine g_aload_n hk dX11_whose_0 rfl ?_
  refine gX_r0_2 hk hin11 (List.mem_cons_of_mem _ (List.mem_append_left _ (List.mem_of_getElem? (i := 0) rfl))) dX11_whose_1 ?_
  refine g_iload_n hk dX11_whose_4 rfl ?_
  refine g_iload_n hk dX11_whose_5 rfl ?_
  refine g_callV (n := 2) hk (k207_X6_hasWindow l D zt q d I A z1 z2 hIv) (SP.same _) (fun _ h => h) (gi_V (List.mem_cons_of_mem _ (List.mem_append_left _ (List.mem_of_getElem? (i := 1) rfl))) (List.mem_cons_of_mem _ (List.mem_append_left _ (List.mem_of_getElem? (i := 2) rfl))) (List.mem_cons_of_mem _ (List.mem_append_left _ (List.mem_of_getElem? (i := 3) rfl))) (List.mem_cons_of_mem _ (List.mem_append_left _ (List.mem_of_getElem? (i := 4) rfl))) (gi_sub (fun w h => (List.mem_cons_of_mem _ (List.mem_append_right _ (List.mem_append_right _ (List.mem_append_left _ h))))) zg_k207_X6_hasWindow)) rfl rfl rfl (by decide +kernel) ⟨Nat.le_of_ble_eq_true rfl, Nat.le_of_ble_eq_true rfl⟩ 13 rfl rfl rfl rfl (Nat.le_of_ble_eq_true rfl) ⟨Nat.le_of_ble_eq_true rfl, Nat.le_of_ble_eq_true rfl⟩ dX11_whose_6 (fun v ty' w' hp hk' => ?_)
  rcases hp with ⟨hC, rfl, rfl⟩ | ⟨c4978, c4979, c4980, c4981, c4982, c4983, hC, rfl, rfl⟩
  · skip
    replace hF := FE.pos hF hC
    show GW κ 3 0 0 (wX q d I A) 9 [(0, .ref (q 0)), (1, .int z1), (2, .int z2)] [.int 0]
    refine g_if_eq (tgt := 24) (a := 0) hk dX11_whose_9 (by decide) rfl (fun _ => ?_) (fun z9 => absurd (show (0 : Int) = (0 : Int) from by decide) z9)
    refine g_iconst (v := (-1)) hk dX11_whose_24 (by decide) ?_
    exact g_iret hk hR rfl ⟨I, A, (show Md [28, 30, 31, 32, 33, 34] I I from Md.rf), (show Md [21, 22, 23] A A from Md.rf), hIv, (-1), (by decide), (by decide), hF, rfl, rfl⟩ dX11_whose_25
  · skip
    replace hF := FE.neg hF (fe_ne hC (by decide))
    show GW κ 3 0 0 (wX q d I A) 9 [(0, .ref (q 0)), (1, .int z1), (2, .int z2)] [.int 1]
    refine g_if_eq (tgt := 24) (a := 1) hk dX11_whose_9 (by decide) rfl (fun z9 => absurd z9 (show ¬ ((1 : Int) = (0 : Int)) from by decide)) (fun _ => ?_)
    refine g_aload_n hk dX11_whose_12 rfl ?_
    refine gX_r0_8 hk hin11 (List.mem_cons_of_mem _ (List.mem_append_left _ (List.mem_of_getElem? (i := 5) rfl))) dX11_whose_13 ?_
    refine g_iload_n hk dX11_whose_16 rfl ?_
    refine g_iload_n hk dX11_whose_17 rfl ?_
    refine g_callV (n := 2) hk (k259_X1_nearestQuery l D zt q d I A z1 z2 hIv) (SP.same _) (fun _ h => h) (gi_V (List.mem_cons_of_mem _ (List.mem_append_left _ (List.mem_of_getElem? (i := 6) rfl))) (List.mem_cons_of_mem _ (List.mem_append_left _ (List.mem_of_getElem? (i := 7) rfl))) (List.mem_cons_of_mem _ (List.mem_append_left _ (List.mem_of_getElem? (i := 8) rfl))) (List.mem_cons_of_mem _ (List.mem_append_left _ (List.mem_of_getElem? (i := 9) rfl))) (gi_sub (fun w h => (List.mem_cons_of_mem _ (List.mem_append_right _ (List.mem_append_right _ (List.mem_append_right _ (List.mem_append_left _ h)))))) zg_k259_X1_nearestQuery)) rfl rfl rfl (by decide +kernel) ⟨Nat.le_of_ble_eq_true rfl, Nat.le_of_ble_eq_true rfl⟩ 43 rfl rfl rfl rfl (Nat.le_of_ble_eq_true rfl) ⟨Nat.le_of_ble_eq_true rfl, Nat.le_of_ble_eq_true rfl⟩ dX11_whose_18 (fun v ty' w' hp hk' => ?_)
    obtain ⟨I5223, A5223, hI5223, hA5223, hV5223, y5220, c5221, c5222, hC, rfl, rfl⟩ := hp
    replace hF := FE.bdX hF hC
    show GW κ 3 0 0 (wX q d I5223 A5223) 21 [(0, .ref (q 0)), (1, .int z1), (2, .int z2)] [.int y5220]
    refine g_goto (tgt := 25) hk dX11_whose_21 (by decide) ?_
    exact g_iret hk hR rfl ⟨I5223, A5223, (show Md [28, 30, 31, 32, 33, 34] I I5223 from (Md.tr Md.rf hI5223 rfl)), (show Md [21, 22, 23] A A5223 from (Md.tr Md.rf hA5223 rfl)), hV5223, y5220, (by omega), (by omega), hF, rfl, rfl⟩ dX11_whose_25
noncomputable def bX1_firedBits_4 (I : Nat → Int32) (z1 : Int32) : (Int32 → Int32 → (Nat → Int32) → (Nat → Nat → Int32) → (Int32 × (Nat → Int32) × (Nat → Nat → Int32))) → Int32 → Int32 → (Nat → Int32) → (Nat → Nat → Int32) → (Int32 × (Nat → Int32) × (Nat → Nat → Int32)) := fun kk5366 x5226 x5227 I5230 A5230 => if (I 19).toInt ≤ x5226.toInt then (x5227, I5230, A5230) else if (fX4_lengthOf_2 I5230 A5230 x5226).2 = 0 then f_lt ((I 18) - (0 : Int32)) fun y5383 => f_bdX (fX0_openBoth I5230 A5230 x5226 y5383) fun y5384 I5387 A5387 => if y5384.toInt = 0 then f_lt (x5226 + Int32.ofInt 1) fun y5389 => kk5366 y5389 x5227 I5387 A5387 else f_bdX (fX2_wholeDistance I5387 A5387) fun y5390 I5391 A5391 => if z1.toInt < y5390.toInt then f_lt (x5226 + Int32.ofInt 1) fun y5395 => kk5366 y5395 x5227 I5391 A5391 else f_lt ((1 : Int32) <<< (x5226 &&& 31)) fun y5396 => f_lt (x5227 ||| y5396) fun y5397 => f_lt (x5226 + Int32.ofInt 1) fun y5398 => kk5366 y5398 y5397 I5391 A5391 else f_lt (fX4_lengthOf_2 I5230 A5230 x5226).1 fun y5380 => f_lt ((I 18) - y5380) fun y5399 => f_bdX (fX0_openBoth I5230 A5230 x5226 y5399) fun y5400 I5403 A5403 => if y5400.toInt = 0 then f_lt (x5226 + Int32.ofInt 1) fun y5405 => kk5366 y5405 x5227 I5403 A5403 else f_bdX (fX2_wholeDistance I5403 A5403) fun y5406 I5407 A5407 => if z1.toInt < y5406.toInt then f_lt (x5226 + Int32.ofInt 1) fun y5411 => kk5366 y5411 x5227 I5407 A5407 else f_lt ((1 : Int32) <<< (x5226 &&& 31)) fun y5412 => f_lt (x5227 ||| y5412) fun y5413 => f_lt (x5226 + Int32.ofInt 1) fun y5414 => kk5366 y5414 y5413 I5407 A5407
noncomputable def fX1_firedBits (I : Nat → Int32) (A : Nat → Nat → Int32) (z1 : Int32) : Int32 × (Nat → Int32) × (Nat → Nat → Int32) := itr_iiIA dfX (bX1_firedBits_4 I z1) FU 0 0 I A
def wo_k261_X1_firedBits : List Cond := [Cond.fieldLink RX1 43 "WarpDesk$Finder" "queries" "LWarpDesk$Queries;", Cond.fieldLink RX1 161 "WarpDesk$Queries" "size" "I", Cond.fieldLink RX1 38 "WarpDesk$Finder" "series" "LWarpDesk$Series;", Cond.fieldLink RX1 59 "WarpDesk$Series" "size" "I", Cond.methodLink RX1 65 yX4_lengthOf, Cond.instanceMethod yX4_lengthOf, Cond.selects RX4 yX4_lengthOf yX4_lengthOf, Cond.initialized RX4, Cond.fieldLink RX1 28 "WarpDesk$Finder" "bench" "LWarpDesk$Bench;", Cond.methodLink RX1 162 yX0_openBoth, Cond.instanceMethod yX0_openBoth, Cond.selects RX0 yX0_openBoth yX0_openBoth, Cond.initialized RX0, Cond.fieldLink RX1 78 "WarpDesk$Bench" "fit" "LWarpDesk$Fit;", Cond.methodLink RX1 113 yX2_wholeDistance, Cond.instanceMethod yX2_wholeDistance, Cond.selects RX2 yX2_wholeDistance yX2_wholeDistance, Cond.initialized RX2]
def wz_k261_X1_firedBits : List Cond := .code yX1_firedBits cX1_firedBits 5 (some .int) :: (wo_k261_X1_firedBits ++ (wsX00 ++ (wsX10 ++ (wsX40 ++ (wsX60 ++ (wz_k165_X4_lengthOf ++ (wz_k222_X0_openBoth ++ (wz_k232_X2_wholeDistance ++ ([] : List Cond)))))))))
theorem zg_k261_X1_firedBits : ∀ w ∈ wz_k261_X1_firedBits, goodWord w = true := zg_cons rfl (zg_app (by decide +kernel) (zg_app zgU_wsX00 (zg_app zgU_wsX10 (zg_app zgU_wsX40 (zg_app zgU_wsX60 (zg_app zg_k165_X4_lengthOf (zg_app zg_k222_X0_openBoth (zg_app zg_k232_X2_wholeDistance zg_nil))))))))
theorem zi_k261_X1_firedBits : ∀ w ∈ wz_k261_X1_firedBits, w ∈ lw_tbl := zi_cons zw_1112 (zi_app (zi_cons zw_404 (zi_cons zw_221 (zi_cons zw_403 (zi_cons zw_283 (zi_cons zw_1102 (zi_cons zw_757 (zi_cons zw_758 (zi_cons zw_108 (zi_cons zw_402 (zi_cons zw_1103 (zi_cons zw_970 (zi_cons zw_971 (zi_cons zw_111 (zi_cons zw_382 (zi_cons zw_1104 (zi_cons zw_993 (zi_cons zw_994 (zi_cons zw_112 zi_nil)))))))))))))))))) (zi_app inX0 (zi_app inX1 (zi_app inX4 (zi_app inX6 (zi_app zi_k165_X4_lengthOf (zi_app zi_k222_X0_openBoth (zi_app zi_k232_X2_wholeDistance zi_nil))))))))
set_option maxHeartbeats 4000000 in
set_option maxRecDepth 100000 in
theorem k261_X1_firedBits (l : Launch) (D : va_G) (zt : Nat × Nat × Nat × (Nat → Nat) × (Nat → Nat)) (q : Nat → Nat) (d : Nat → ClassId) (I : Nat → Int32) (A : Nat → Nat → Int32) (z1 : Int32) (hIv : IvX I A) : GM l D zt (tyX d) yX1_firedBits wz_k261_X1_firedBits ({ frames := 6, cells := 0, slots := 0, locals := 131 } : Room) [.ref (q 43), .int z1] (wX q d I A) (fun v _ w' => ∃ (I' : Nat → Int32) (A' : Nat → Nat → Int32), Md [28, 30, 31, 32, 33, 34] I I' ∧ Md [21, 22, 23] A A' ∧ IvX I' A' ∧ ∃ y0 : Int32, FE (fX1_firedBits I A z1) (y0, I', A') ∧ v = some (.int y0) ∧ w' = wX q d I' A') 0 0 := by
  refine GM.of (cc := cX1_firedBits) (maxL := 5) (ret := (some .int)) (own := RX1) (lv := [(0, .ref (q 43)), (1, .int z1)]) (by decide) rfl rfl (Nat.le_of_ble_eq_true rfl) rfl (fun κ sz hk hR hN => ?_)
  have hin0 : ∀ w ∈ u_ws RX0 TX0 5, w ∈ wz_k261_X1_firedBits := fun w h => (List.mem_cons_of_mem _ (List.mem_append_right _ (List.mem_append_left _ h)))
  have hin1 : ∀ w ∈ u_ws RX1 TX1 11, w ∈ wz_k261_X1_firedBits := fun w h => (List.mem_cons_of_mem _ (List.mem_append_right _ (List.mem_append_right _ (List.mem_append_left _ h))))
  have hin4 : ∀ w ∈ u_ws RX4 TX4 3, w ∈ wz_k261_X1_firedBits := fun w h => (List.mem_cons_of_mem _ (List.mem_append_right _ (List.mem_append_right _ (List.mem_append_right _ (List.mem_append_left _ h)))))
  have hin6 : ∀ w ∈ u_ws RX6 TX6 3, w ∈ wz_k261_X1_firedBits := fun w h => (List.mem_cons_of_mem _ (List.mem_append_right _ (List.mem_append_right _ (List.mem_append_right _ (List.mem_append_right _ (List.mem_append_left _ h))))))
  have hF : FE (fX1_firedBits I A z1) (fX1_firedBits I A z1) := FE.rf
  refine g_iconst (v := 0) hk dX1_firedBits_0 (by decide) ?_
  refine g_istore_n (lv' := [(2, .int 0), (0, .ref (q 43)), (1, .int z1)]) hk dX1_firedBits_1 (by decide) rfl ?_
  refine g_iconst (v := 0) hk dX1_firedBits_2 (by decide) ?_
  refine g_istore_n (lv' := [(3, .int 0), (2, .int 0), (0, .ref (q 43)), (1, .int z1)]) hk dX1_firedBits_3 (by decide) rfl ?_
  have lp5363 : ∀ (n5364 : Nat) (x5226 : Int32) (x5227 : Int32) (I5230 : Nat → Int32) (A5230 : Nat → Nat → Int32), (Md [28, 30, 31, 32, 33, 34] I I5230) → (Md [21, 22, 23] A A5230) → (IvX I5230 A5230) → (0 ≤ x5226.toInt) → ((I 19).toInt + 1 - x5226.toInt < (n5364 : Int)) → (0 < n5364) → (FE (fX1_firedBits I A z1) (itr_iiIA dfX (bX1_firedBits_4 I z1) n5364 x5226 x5227 I5230 A5230)) → GW κ 5 0 0 (wX q d I5230 A5230) 4 [(3, .int x5226), (2, .int x5227), (0, .ref (q 43)), (1, .int z1)] [] := by
    intro n5364
    induction n5364 with
    | zero =>
      intro x5226 x5227 I5230 A5230 hI5230 hA5230 hV5230 h5362 m5365 m5365z hF
      exact absurd m5365z (Nat.lt_irrefl 0)
    | succ n5364 ih5367 =>
      intro x5226 x5227 I5230 A5230 hI5230 hA5230 hV5230 h5362 m5365 m5365z hF
      replace hF := FE.itr_iiIA hF
      refine g_iload_n hk dX1_firedBits_4 rfl ?_
      refine g_aload_n hk dX1_firedBits_5 rfl ?_
      refine gX_r43_2 hk hin1 (List.mem_cons_of_mem _ (List.mem_append_left _ (List.mem_of_getElem? (i := 0) rfl))) dX1_firedBits_6 ?_
      refine gX_i19 (v := (I 19)) hk hin4 (List.mem_cons_of_mem _ (List.mem_append_left _ (List.mem_of_getElem? (i := 1) rfl))) dX1_firedBits_9 (hI5230 19 rfl) ?_
      have b5368l := Int32.le_toInt x5226
      have b5368h := Int32.toInt_lt x5226
      have b5369l := Int32.le_toInt (I 19)
      have b5369h := Int32.toInt_lt (I 19)
      refine g_icmp_ge (tgt := 72) (a := x5226.toInt) (b := (I 19).toInt) hk dX1_firedBits_12 (by decide) rfl rfl (fun c5370 => ?_) (fun c5370 => ?_)
      · skip
        replace hF := FE.pos hF c5370
        refine g_iload_n hk dX1_firedBits_72 rfl ?_
        have b5371l := Int32.le_toInt x5227
        have b5371h := Int32.toInt_lt x5227
        exact g_iret hk hR rfl ⟨I5230, A5230, (show Md [28, 30, 31, 32, 33, 34] I I5230 from (Md.tr Md.rf hI5230 rfl)), (show Md [21, 22, 23] A A5230 from (Md.tr Md.rf hA5230 rfl)), hV5230, x5227, hF, rfl, rfl⟩ dX1_firedBits_73
      · skip
        replace hF := FE.neg hF c5370
        refine g_aload_n hk dX1_firedBits_15 rfl ?_
        refine gX_r43_1 hk hin1 (List.mem_cons_of_mem _ (List.mem_append_left _ (List.mem_of_getElem? (i := 2) rfl))) dX1_firedBits_16 ?_
        refine gX_i18 (v := (I 18)) hk hin6 (List.mem_cons_of_mem _ (List.mem_append_left _ (List.mem_of_getElem? (i := 3) rfl))) dX1_firedBits_19 (hI5230 18 rfl) ?_
        have f5372 := IvX_f18 hIv
        refine g_aload_n hk dX1_firedBits_22 rfl ?_
        refine gX_r43_2 hk hin1 (List.mem_cons_of_mem _ (List.mem_append_left _ (List.mem_of_getElem? (i := 0) rfl))) dX1_firedBits_23 ?_
        refine g_iload_n hk dX1_firedBits_26 rfl ?_
        refine g_callV (n := 1) hk (k182_X4_lengthOf l D zt q d I5230 A5230 x5226 hV5230) (SP.same _) (fun _ h => h) (gi_V (List.mem_cons_of_mem _ (List.mem_append_left _ (List.mem_of_getElem? (i := 4) rfl))) (List.mem_cons_of_mem _ (List.mem_append_left _ (List.mem_of_getElem? (i := 5) rfl))) (List.mem_cons_of_mem _ (List.mem_append_left _ (List.mem_of_getElem? (i := 6) rfl))) (List.mem_cons_of_mem _ (List.mem_append_left _ (List.mem_of_getElem? (i := 7) rfl))) (gi_sub (fun w h => (List.mem_cons_of_mem _ (List.mem_append_right _ (List.mem_append_right _ (List.mem_append_right _ (List.mem_append_right _ (List.mem_append_right _ (List.mem_append_left _ h)))))))) zg_k165_X4_lengthOf)) rfl rfl rfl (by decide +kernel) ⟨Nat.le_of_ble_eq_true rfl, Nat.le_of_ble_eq_true rfl⟩ 15 rfl rfl rfl rfl (Nat.le_of_ble_eq_true rfl) ⟨Nat.le_of_ble_eq_true rfl, Nat.le_of_ble_eq_true rfl⟩ dX1_firedBits_27 (fun v ty' w' hp hk' => ?_)
        rcases hp with ⟨hC, rfl, rfl⟩ | ⟨y5380, c5374, c5375, c5376, c5377, c5378, c5379, c5381, c5382, hC, rfl, rfl⟩
        · skip
          replace hF := FE.pos hF (fe_2 hC)
          show GW κ 5 0 0 (wX q d I5230 A5230) 30 [(3, .int x5226), (2, .int x5227), (0, .ref (q 43)), (1, .int z1)] [.int 0, .int (I 18)]
          refine g_isub hk dX1_firedBits_30 ?_
          refine g_topi (fun y5383 ey5383 => ?_)
          replace hF := FE.lt hF ey5383
          have hy5383 : y5383.toInt = (I 18).toInt - 0 := i32_sub ey5383 rfl rfl (by omega) (by omega)
          refine g_istore (lv' := [(4, .int y5383), (3, .int x5226), (2, .int x5227), (0, .ref (q 43)), (1, .int z1)]) hk dX1_firedBits_31 (by decide) rfl ?_
          refine g_aload_n hk dX1_firedBits_33 rfl ?_
          refine gX_r43_0 hk hin1 (List.mem_cons_of_mem _ (List.mem_append_left _ (List.mem_of_getElem? (i := 8) rfl))) dX1_firedBits_34 ?_
          refine g_iload_n hk dX1_firedBits_37 rfl ?_
          refine g_iload hk dX1_firedBits_38 rfl ?_
          refine g_callV (n := 2) hk (k222_X0_openBoth l D zt q d I5230 A5230 x5226 y5383 hV5230) (SP.same _) (fun _ h => h) (gi_V (List.mem_cons_of_mem _ (List.mem_append_left _ (List.mem_of_getElem? (i := 9) rfl))) (List.mem_cons_of_mem _ (List.mem_append_left _ (List.mem_of_getElem? (i := 10) rfl))) (List.mem_cons_of_mem _ (List.mem_append_left _ (List.mem_of_getElem? (i := 11) rfl))) (List.mem_cons_of_mem _ (List.mem_append_left _ (List.mem_of_getElem? (i := 12) rfl))) (gi_sub (fun w h => (List.mem_cons_of_mem _ (List.mem_append_right _ (List.mem_append_right _ (List.mem_append_right _ (List.mem_append_right _ (List.mem_append_right _ (List.mem_append_right _ (List.mem_append_left _ h))))))))) zg_k222_X0_openBoth)) rfl rfl rfl (by decide +kernel) ⟨Nat.le_of_ble_eq_true rfl, Nat.le_of_ble_eq_true rfl⟩ 37 rfl rfl rfl rfl (Nat.le_of_ble_eq_true rfl) ⟨Nat.le_of_ble_eq_true rfl, Nat.le_of_ble_eq_true rfl⟩ dX1_firedBits_40 (fun v ty' w' hp hk' => ?_)
          obtain ⟨I5387, A5387, hI5387, hA5387, hV5387, y5384, c5385, c5386, hC, rfl, rfl⟩ := hp
          replace hF := FE.bdX hF hC
          show GW κ 5 0 0 (wX q d I5387 A5387) 43 [(4, .int y5383), (3, .int x5226), (2, .int x5227), (0, .ref (q 43)), (1, .int z1)] [.int y5384]
          refine g_if_eq (tgt := 66) (a := y5384.toInt) hk dX1_firedBits_43 (by decide) rfl (fun c5388 => ?_) (fun c5388 => ?_)
          · skip
            replace hF := FE.pos hF c5388
            obtain ⟨y5389, ey5389⟩ : ∃ y : Int32, y = x5226 + Int32.ofInt 1 := ⟨_, rfl⟩
            replace hF := FE.lt hF ey5389
            have hy5389 : y5389.toInt = x5226.toInt + 1 := i32_add ey5389 rfl (by decide) (by omega) (by omega)
            refine g_iinc (v := y5389) (lv' := [(3, .int y5389), (4, .int y5383), (2, .int x5227), (0, .ref (q 43)), (1, .int z1)]) hk 1 dX1_firedBits_66 rfl ey5389.symm (by decide) rfl ?_
            refine g_goto (tgt := 4) hk dX1_firedBits_69 (by decide) ?_
            exact g_lv (List.forall_mem_cons.mpr ⟨List.mem_of_getElem? (i := 0) rfl, (List.forall_mem_cons.mpr ⟨List.mem_of_getElem? (i := 2) rfl, (List.forall_mem_cons.mpr ⟨List.mem_of_getElem? (i := 3) rfl, (List.forall_mem_cons.mpr ⟨List.mem_of_getElem? (i := 4) rfl, (fun _ h => absurd h List.not_mem_nil)⟩)⟩)⟩)⟩) (ih5367 y5389 x5227 I5387 A5387 (show Md [28, 30, 31, 32, 33, 34] I I5387 from Md.tr hI5230 (show Md [28, 30, 31, 32, 33, 34] I5230 I5387 from (Md.tr Md.rf hI5387 rfl)) rfl) (show Md [21, 22, 23] A A5387 from Md.tr hA5230 (show Md [21, 22, 23] A5230 A5387 from (Md.tr Md.rf hA5387 rfl)) rfl) hV5387 (by omega) (by omega) (by omega) hF)
          · skip
            replace hF := FE.neg hF c5388
            refine g_aload_n hk dX1_firedBits_46 rfl ?_
            refine gX_r43_0 hk hin1 (List.mem_cons_of_mem _ (List.mem_append_left _ (List.mem_of_getElem? (i := 8) rfl))) dX1_firedBits_47 ?_
            refine gX_r37_3 hk hin0 (List.mem_cons_of_mem _ (List.mem_append_left _ (List.mem_of_getElem? (i := 13) rfl))) dX1_firedBits_50 ?_
            refine g_callV (n := 0) hk (k232_X2_wholeDistance l D zt q d I5387 A5387  hV5387) (SP.same _) (fun _ h => h) (gi_V (List.mem_cons_of_mem _ (List.mem_append_left _ (List.mem_of_getElem? (i := 14) rfl))) (List.mem_cons_of_mem _ (List.mem_append_left _ (List.mem_of_getElem? (i := 15) rfl))) (List.mem_cons_of_mem _ (List.mem_append_left _ (List.mem_of_getElem? (i := 16) rfl))) (List.mem_cons_of_mem _ (List.mem_append_left _ (List.mem_of_getElem? (i := 17) rfl))) (gi_sub (fun w h => (List.mem_cons_of_mem _ (List.mem_append_right _ (List.mem_append_right _ (List.mem_append_right _ (List.mem_append_right _ (List.mem_append_right _ (List.mem_append_right _ (List.mem_append_right _ (List.mem_append_left _ h)))))))))) zg_k232_X2_wholeDistance)) rfl rfl rfl (by decide +kernel) ⟨Nat.le_of_ble_eq_true rfl, Nat.le_of_ble_eq_true rfl⟩ 38 rfl rfl rfl rfl (Nat.le_of_ble_eq_true rfl) ⟨Nat.le_of_ble_eq_true rfl, Nat.le_of_ble_eq_true rfl⟩ dX1_firedBits_53 (fun v ty' w' hp hk' => ?_)
            obtain ⟨I5391, A5391, hI5391, hA5391, hV5391, y5390, hC, rfl, rfl⟩ := hp
            replace hF := FE.bdX hF hC
            show GW κ 5 0 0 (wX q d I5391 A5391) 56 [(4, .int y5383), (3, .int x5226), (2, .int x5227), (0, .ref (q 43)), (1, .int z1)] [.int y5390]
            refine g_iload_n hk dX1_firedBits_56 rfl ?_
            have b5392l := Int32.le_toInt y5390
            have b5392h := Int32.toInt_lt y5390
            have b5393l := Int32.le_toInt z1
            have b5393h := Int32.toInt_lt z1
            refine g_icmp_gt (tgt := 66) (a := y5390.toInt) (b := z1.toInt) hk dX1_firedBits_57 (by decide) rfl rfl (fun c5394 => ?_) (fun c5394 => ?_)
            · skip
              replace hF := FE.pos hF c5394
              obtain ⟨y5395, ey5395⟩ : ∃ y : Int32, y = x5226 + Int32.ofInt 1 := ⟨_, rfl⟩
              replace hF := FE.lt hF ey5395
              have hy5395 : y5395.toInt = x5226.toInt + 1 := i32_add ey5395 rfl (by decide) (by omega) (by omega)
              refine g_iinc (v := y5395) (lv' := [(3, .int y5395), (4, .int y5383), (2, .int x5227), (0, .ref (q 43)), (1, .int z1)]) hk 1 dX1_firedBits_66 rfl ey5395.symm (by decide) rfl ?_
              refine g_goto (tgt := 4) hk dX1_firedBits_69 (by decide) ?_
              exact g_lv (List.forall_mem_cons.mpr ⟨List.mem_of_getElem? (i := 0) rfl, (List.forall_mem_cons.mpr ⟨List.mem_of_getElem? (i := 2) rfl, (List.forall_mem_cons.mpr ⟨List.mem_of_getElem? (i := 3) rfl, (List.forall_mem_cons.mpr ⟨List.mem_of_getElem? (i := 4) rfl, (fun _ h => absurd h List.not_mem_nil)⟩)⟩)⟩)⟩) (ih5367 y5395 x5227 I5391 A5391 (show Md [28, 30, 31, 32, 33, 34] I I5391 from Md.tr hI5230 (show Md [28, 30, 31, 32, 33, 34] I5230 I5391 from (Md.tr (Md.tr Md.rf hI5387 rfl) hI5391 rfl)) rfl) (show Md [21, 22, 23] A A5391 from Md.tr hA5230 (show Md [21, 22, 23] A5230 A5391 from (Md.tr (Md.tr Md.rf hA5387 rfl) hA5391 rfl)) rfl) hV5391 (by omega) (by omega) (by omega) hF)
            · skip
              replace hF := FE.neg hF c5394
              refine g_iload_n hk dX1_firedBits_60 rfl ?_
              refine g_iconst (v := 1) hk dX1_firedBits_61 (by decide) ?_
              refine g_iload_n hk dX1_firedBits_62 rfl ?_
              refine g_ishl hk dX1_firedBits_63 ?_
              refine g_topi (fun y5396 ey5396 => ?_)
              replace hF := FE.lt hF ey5396
              refine g_ior hk dX1_firedBits_64 ?_
              refine g_topi (fun y5397 ey5397 => ?_)
              replace hF := FE.lt hF ey5397
              refine g_istore_n (lv' := [(2, .int y5397), (4, .int y5383), (3, .int x5226), (0, .ref (q 43)), (1, .int z1)]) hk dX1_firedBits_65 (by decide) rfl ?_
              obtain ⟨y5398, ey5398⟩ : ∃ y : Int32, y = x5226 + Int32.ofInt 1 := ⟨_, rfl⟩
              replace hF := FE.lt hF ey5398
              have hy5398 : y5398.toInt = x5226.toInt + 1 := i32_add ey5398 rfl (by decide) (by omega) (by omega)
              refine g_iinc (v := y5398) (lv' := [(3, .int y5398), (2, .int y5397), (4, .int y5383), (0, .ref (q 43)), (1, .int z1)]) hk 2 dX1_firedBits_66 rfl ey5398.symm (by decide) rfl ?_
              refine g_goto (tgt := 4) hk dX1_firedBits_69 (by decide) ?_
              exact g_lv (List.forall_mem_cons.mpr ⟨List.mem_of_getElem? (i := 0) rfl, (List.forall_mem_cons.mpr ⟨List.mem_of_getElem? (i := 1) rfl, (List.forall_mem_cons.mpr ⟨List.mem_of_getElem? (i := 3) rfl, (List.forall_mem_cons.mpr ⟨List.mem_of_getElem? (i := 4) rfl, (fun _ h => absurd h List.not_mem_nil)⟩)⟩)⟩)⟩) (ih5367 y5398 y5397 I5391 A5391 (show Md [28, 30, 31, 32, 33, 34] I I5391 from Md.tr hI5230 (show Md [28, 30, 31, 32, 33, 34] I5230 I5391 from (Md.tr (Md.tr Md.rf hI5387 rfl) hI5391 rfl)) rfl) (show Md [21, 22, 23] A A5391 from Md.tr hA5230 (show Md [21, 22, 23] A5230 A5391 from (Md.tr (Md.tr Md.rf hA5387 rfl) hA5391 rfl)) rfl) hV5391 (by omega) (by omega) (by omega) hF)
        · skip
          replace hF := FE.neg hF (fe_ne2 hC (by decide))
          replace hF := FE.lt hF (fe_1 hC)
          show GW κ 5 0 0 (wX q d I5230 A5230) 30 [(3, .int x5226), (2, .int x5227), (0, .ref (q 43)), (1, .int z1)] [.int y5380, .int (I 18)]
          refine g_isub hk dX1_firedBits_30 ?_
          refine g_topi (fun y5399 ey5399 => ?_)
          replace hF := FE.lt hF ey5399
          have hy5399 : y5399.toInt = (I 18).toInt - y5380.toInt := i32_sub ey5399 rfl rfl (by omega) (by omega)
          refine g_istore (lv' := [(4, .int y5399), (3, .int x5226), (2, .int x5227), (0, .ref (q 43)), (1, .int z1)]) hk dX1_firedBits_31 (by decide) rfl ?_
          refine g_aload_n hk dX1_firedBits_33 rfl ?_
          refine gX_r43_0 hk hin1 (List.mem_cons_of_mem _ (List.mem_append_left _ (List.mem_of_getElem? (i := 8) rfl))) dX1_firedBits_34 ?_
          refine g_iload_n hk dX1_firedBits_37 rfl ?_
          refine g_iload hk dX1_firedBits_38 rfl ?_
          refine g_callV (n := 2) hk (k222_X0_openBoth l D zt q d I5230 A5230 x5226 y5399 hV5230) (SP.same _) (fun _ h => h) (gi_V (List.mem_cons_of_mem _ (List.mem_append_left _ (List.mem_of_getElem? (i := 9) rfl))) (List.mem_cons_of_mem _ (List.mem_append_left _ (List.mem_of_getElem? (i := 10) rfl))) (List.mem_cons_of_mem _ (List.mem_append_left _ (List.mem_of_getElem? (i := 11) rfl))) (List.mem_cons_of_mem _ (List.mem_append_left _ (List.mem_of_getElem? (i := 12) rfl))) (gi_sub (fun w h => (List.mem_cons_of_mem _ (List.mem_append_right _ (List.mem_append_right _ (List.mem_append_right _ (List.mem_append_right _ (List.mem_append_right _ (List.mem_append_right _ (List.mem_append_left _ h))))))))) zg_k222_X0_openBoth)) rfl rfl rfl (by decide +kernel) ⟨Nat.le_of_ble_eq_true rfl, Nat.le_of_ble_eq_true rfl⟩ 37 rfl rfl rfl rfl (Nat.le_of_ble_eq_true rfl) ⟨Nat.le_of_ble_eq_true rfl, Nat.le_of_ble_eq_true rfl⟩ dX1_firedBits_40 (fun v ty' w' hp hk' => ?_)
          obtain ⟨I5403, A5403, hI5403, hA5403, hV5403, y5400, c5401, c5402, hC, rfl, rfl⟩ := hp
          replace hF := FE.bdX hF hC
          show GW κ 5 0 0 (wX q d I5403 A5403) 43 [(4, .int y5399), (3, .int x5226), (2, .int x5227), (0, .ref (q 43)), (1, .int z1)] [.int y5400]
          refine g_if_eq (tgt := 66) (a := y5400.toInt) hk dX1_firedBits_43 (by decide) rfl (fun c5404 => ?_) (fun c5404 => ?_)
          · skip
            replace hF := FE.pos hF c5404
            obtain ⟨y5405, ey5405⟩ : ∃ y : Int32, y = x5226 + Int32.ofInt 1 := ⟨_, rfl⟩
            replace hF := FE.lt hF ey5405
            have hy5405 : y5405.toInt = x5226.toInt + 1 := i32_add ey5405 rfl (by decide) (by omega) (by omega)
            refine g_iinc (v := y5405) (lv' := [(3, .int y5405), (4, .int y5399), (2, .int x5227), (0, .ref (q 43)), (1, .int z1)]) hk 1 dX1_firedBits_66 rfl ey5405.symm (by decide) rfl ?_
            refine g_goto (tgt := 4) hk dX1_firedBits_69 (by decide) ?_
            exact g_lv (List.forall_mem_cons.mpr ⟨List.mem_of_getElem? (i := 0) rfl, (List.forall_mem_cons.mpr ⟨List.mem_of_getElem? (i := 2) rfl, (List.forall_mem_cons.mpr ⟨List.mem_of_getElem? (i := 3) rfl, (List.forall_mem_cons.mpr ⟨List.mem_of_getElem? (i := 4) rfl, (fun _ h => absurd h List.not_mem_nil)⟩)⟩)⟩)⟩) (ih5367 y5405 x5227 I5403 A5403 (show Md [28, 30, 31, 32, 33, 34] I I5403 from Md.tr hI5230 (show Md [28, 30, 31, 32, 33, 34] I5230 I5403 from (Md.tr Md.rf hI5403 rfl)) rfl) (show Md [21, 22, 23] A A5403 from Md.tr hA5230 (show Md [21, 22, 23] A5230 A5403 from (Md.tr Md.rf hA5403 rfl)) rfl) hV5403 (by omega) (by omega) (by omega) hF)
          · skip
            replace hF := FE.neg hF c5404
            refine g_aload_n hk dX1_firedBits_46 rfl ?_
            refine gX_r43_0 hk hin1 (List.mem_cons_of_mem _ (List.mem_append_left _ (List.mem_of_getElem? (i := 8) rfl))) dX1_firedBits_47 ?_
            refine gX_r37_3 hk hin0 (List.mem_cons_of_mem _ (List.mem_append_left _ (List.mem_of_getElem? (i := 13) rfl))) dX1_firedBits_50 ?_
            refine g_callV (n := 0) hk (k232_X2_wholeDistance l D zt q d I5403 A5403  hV5403) (SP.same _) (fun _ h => h) (gi_V (List.mem_cons_of_mem _ (List.mem_append_left _ (List.mem_of_getElem? (i := 14) rfl))) (List.mem_cons_of_mem _ (List.mem_append_left _ (List.mem_of_getElem? (i := 15) rfl))) (List.mem_cons_of_mem _ (List.mem_append_left _ (List.mem_of_getElem? (i := 16) rfl))) (List.mem_cons_of_mem _ (List.mem_append_left _ (List.mem_of_getElem? (i := 17) rfl))) (gi_sub (fun w h => (List.mem_cons_of_mem _ (List.mem_append_right _ (List.mem_append_right _ (List.mem_append_right _ (List.mem_append_right _ (List.mem_append_right _ (List.mem_append_right _ (List.mem_append_right _ (List.mem_append_left _ h)))))))))) zg_k232_X2_wholeDistance)) rfl rfl rfl (by decide +kernel) ⟨Nat.le_of_ble_eq_true rfl, Nat.le_of_ble_eq_true rfl⟩ 38 rfl rfl rfl rfl (Nat.le_of_ble_eq_true rfl) ⟨Nat.le_of_ble_eq_true rfl, Nat.le_of_ble_eq_true rfl⟩ dX1_firedBits_53 (fun v ty' w' hp hk' => ?_)
            obtain ⟨I5407, A5407, hI5407, hA5407, hV5407, y5406, hC, rfl, rfl⟩ := hp
            replace hF := FE.bdX hF hC
            show GW κ 5 0 0 (wX q d I5407 A5407) 56 [(4, .int y5399), (3, .int x5226), (2, .int x5227), (0, .ref (q 43)), (1, .int z1)] [.int y5406]
            refine g_iload_n hk dX1_firedBits_56 rfl ?_
            have b5408l := Int32.le_toInt y5406
            have b5408h := Int32.toInt_lt y5406
            have b5409l := Int32.le_toInt z1
            have b5409h := Int32.toInt_lt z1
            refine g_icmp_gt (tgt := 66) (a := y5406.toInt) (b := z1.toInt) hk dX1_firedBits_57 (by decide) rfl rfl (fun c5410 => ?_) (fun c5410 => ?_)
            · skip
              replace hF := FE.pos hF c5410
              obtain ⟨y5411, ey5411⟩ : ∃ y : Int32, y = x5226 + Int32.ofInt 1 := ⟨_, rfl⟩
              replace hF := FE.lt hF ey5411
              have hy5411 : y5411.toInt = x5226.toInt + 1 := i32_add ey5411 rfl (by decide) (by omega) (by omega)
              refine g_iinc (v := y5411) (lv' := [(3, .int y5411), (4, .int y5399), (2, .int x5227), (0, .ref (q 43)), (1, .int z1)]) hk 1 dX1_firedBits_66 rfl ey5411.symm (by decide) rfl ?_
              refine g_goto (tgt := 4) hk dX1_firedBits_69 (by decide) ?_
              exact g_lv (List.forall_mem_cons.mpr ⟨List.mem_of_getElem? (i := 0) rfl, (List.forall_mem_cons.mpr ⟨List.mem_of_getElem? (i := 2) rfl, (List.forall_mem_cons.mpr ⟨List.mem_of_getElem? (i := 3) rfl, (List.forall_mem_cons.mpr ⟨List.mem_of_getElem? (i := 4) rfl, (fun _ h => absurd h List.not_mem_nil)⟩)⟩)⟩)⟩) (ih5367 y5411 x5227 I5407 A5407 (show Md [28, 30, 31, 32, 33, 34] I I5407 from Md.tr hI5230 (show Md [28, 30, 31, 32, 33, 34] I5230 I5407 from (Md.tr (Md.tr Md.rf hI5403 rfl) hI5407 rfl)) rfl) (show Md [21, 22, 23] A A5407 from Md.tr hA5230 (show Md [21, 22, 23] A5230 A5407 from (Md.tr (Md.tr Md.rf hA5403 rfl) hA5407 rfl)) rfl) hV5407 (by omega) (by omega) (by omega) hF)
            · skip
              replace hF := FE.neg hF c5410
              refine g_iload_n hk dX1_firedBits_60 rfl ?_
              refine g_iconst (v := 1) hk dX1_firedBits_61 (by decide) ?_
              refine g_iload_n hk dX1_firedBits_62 rfl ?_
              refine g_ishl hk dX1_firedBits_63 ?_
              refine g_topi (fun y5412 ey5412 => ?_)
              replace hF := FE.lt hF ey5412
              refine g_ior hk dX1_firedBits_64 ?_
              refine g_topi (fun y5413 ey5413 => ?_)
              replace hF := FE.lt hF ey5413
              refine g_istore_n (lv' := [(2, .int y5413), (4, .int y5399), (3, .int x5226), (0, .ref (q 43)), (1, .int z1)]) hk dX1_firedBits_65 (by decide) rfl ?_
              obtain ⟨y5414, ey5414⟩ : ∃ y : Int32, y = x5226 + Int32.ofInt 1 := ⟨_, rfl⟩
              replace hF := FE.lt hF ey5414
              have hy5414 : y5414.toInt = x5226.toInt + 1 := i32_add ey5414 rfl (by decide) (by omega) (by omega)
              refine g_iinc (v := y5414) (lv' := [(3, .int y5414), (2, .int y5413), (4, .int y5399), (0, .ref (q 43)), (1, .int z1)]) hk 2 dX1_firedBits_66 rfl ey5414.symm (by decide) rfl ?_
              refine g_goto (tgt := 4) hk dX1_firedBits_69 (by decide) ?_
              exact g_lv (List.forall_mem_cons.mpr ⟨List.mem_of_getElem? (i := 0) rfl, (List.forall_mem_cons.mpr ⟨List.mem_of_getElem? (i := 1) rfl, (List.forall_mem_cons.mpr ⟨List.mem_of_getElem? (i := 3) rfl, (List.forall_mem_cons.mpr ⟨List.mem_of_getElem? (i := 4) rfl, (fun _ h => absurd h List.not_mem_nil)⟩)⟩)⟩)⟩) (ih5367 y5414 y5413 I5407 A5407 (show Md [28, 30, 31, 32, 33, 34] I I5407 from Md.tr hI5230 (show Md [28, 30, 31, 32, 33, 34] I5230 I5407 from (Md.tr (Md.tr Md.rf hI5403 rfl) hI5407 rfl)) rfl) (show Md [21, 22, 23] A A5407 from Md.tr hA5230 (show Md [21, 22, 23] A5230 A5407 from (Md.tr (Md.tr Md.rf hA5403 rfl) hA5407 rfl)) rfl) hV5407 (by omega) (by omega) (by omega) hF)
  have k5416 : (0 : Int32).toInt = 0 := rfl
  have b5417 := Int32.le_toInt (I 19)
  have b5418 := Int32.toInt_lt (I 19)
  have n5415a : (I 19).toInt + 1 - 0 < (FU : Int) := by have := FU_eq; omega
  have n5415b : 0 < FU := by have := FU_eq; omega
  exact lp5363 FU 0 0 I A Md.rf Md.rf hIv (by omega) n5415a n5415b hF
noncomputable def fX11_fired (I : Nat → Int32) (A : Nat → Nat → Int32) (z1 : Int32) : Int32 × (Nat → Int32) × (Nat → Nat → Int32) := if 0 ≤ z1.toInt then f_bdX (fX1_firedBits I A z1) fun y5419 I5420 A5420 => (y5419, I5420, A5420) else ((-1), I, A)
def wo_k260_X11_fired : List Cond := [Cond.fieldLink RX11 74 "WarpDesk" "finder" "LWarpDesk$Finder;", Cond.methodLink RX11 266 yX1_firedBits, Cond.instanceMethod yX1_firedBits, Cond.selects RX1 yX1_firedBits yX1_firedBits, Cond.initialized RX1]
def wz_k260_X11_fired : List Cond := .code yX11_fired cX11_fired 2 (some .int) :: (wo_k260_X11_fired ++ (wsX110 ++ (wz_k261_X1_firedBits ++ ([] : List Cond))))
theorem zg_k260_X11_fired : ∀ w ∈ wz_k260_X11_fired, goodWord w = true := zg_cons rfl (zg_app (by decide +kernel) (zg_app zgU_wsX110 (zg_app zg_k261_X1_firedBits zg_nil)))
theorem zi_k260_X11_fired : ∀ w ∈ wz_k260_X11_fired, w ∈ lw_tbl := zi_cons zw_1108 (zi_app (zi_cons zw_495 (zi_cons zw_1109 (zi_cons zw_1110 (zi_cons zw_1111 (zi_cons zw_113 zi_nil))))) (zi_app inX11 (zi_app zi_k261_X1_firedBits zi_nil)))
set_option maxHeartbeats 4000000 in
set_option maxRecDepth 100000 in
theorem k260_X11_fired (l : Launch) (D : va_G) (zt : Nat × Nat × Nat × (Nat → Nat) × (Nat → Nat)) (q : Nat → Nat) (d : Nat → ClassId) (I : Nat → Int32) (A : Nat → Nat → Int32) (z1 : Int32) (hIv : IvX I A) : GM l D zt (tyX d) yX11_fired wz_k260_X11_fired ({ frames := 7, cells := 0, slots := 0, locals := 155 } : Room) [.ref (q 0), .int z1] (wX q d I A) (fun v _ w' => ∃ (I' : Nat → Int32) (A' : Nat → Nat → Int32), Md [28, 30, 31, 32, 33, 34] I I' ∧ Md [21, 22, 23] A A' ∧ IvX I' A' ∧ ∃ y0 : Int32, FE (fX11_fired I A z1) (y0, I', A') ∧ v = some (.int y0) ∧ w' = wX q d I' A') 0 0 := by
  refine GM.of (cc := cX11_fired) (maxL := 2) (ret := (some .int)) (own := RX11) (lv := [(0, .ref (q 0)), (1, .int z1)]) (by decide) rfl rfl (Nat.le_of_ble_eq_true rfl) rfl (fun κ sz hk hR hN => ?_)
  have hin11 : ∀ w ∈ u_ws RX11 TX11 10, w ∈ wz_k260_X11_fired := fun w h => (List.mem_cons_of_mem _ (List.mem_append_right _ (List.mem_append_left _ h)))
  have hF : FE (fX11_fired I A z1) (fX11_fired I A z1) := FE.rf
  refine g_iload_n hk dX11_fired_0 rfl ?_
  have b5224l := Int32.le_toInt z1
  have b5224h := Int32.toInt_lt z1
  refine g_if_ge (tgt := 8) (a := z1.toInt) hk dX11_fired_1 (by decide) rfl (fun c5225 => ?_) (fun c5225 => ?_)
  · skip
    replace hF := FE.pos hF c5225
    refine g_aload_n hk dX11_fired_8 rfl ?_
    refine gX_r0_8 hk hin11 (List.mem_cons_of_mem _ (List.mem_append_left _ (List.mem_of_getElem? (i := 0) rfl))) dX11_fired_9 ?_
    refine g_iload_n hk dX11_fired_12 rfl ?_
    refine g_callV (n := 1) hk (k261_X1_firedBits l D zt q d I A z1 hIv) (SP.same _) (fun _ h => h) (gi_V (List.mem_cons_of_mem _ (List.mem_append_left _ (List.mem_of_getElem? (i := 1) rfl))) (List.mem_cons_of_mem _ (List.mem_append_left _ (List.mem_of_getElem? (i := 2) rfl))) (List.mem_cons_of_mem _ (List.mem_append_left _ (List.mem_of_getElem? (i := 3) rfl))) (List.mem_cons_of_mem _ (List.mem_append_left _ (List.mem_of_getElem? (i := 4) rfl))) (gi_sub (fun w h => (List.mem_cons_of_mem _ (List.mem_append_right _ (List.mem_append_right _ (List.mem_append_left _ h))))) zg_k261_X1_firedBits)) rfl rfl rfl (by decide +kernel) ⟨Nat.le_of_ble_eq_true rfl, Nat.le_of_ble_eq_true rfl⟩ 43 rfl rfl rfl rfl (Nat.le_of_ble_eq_true rfl) ⟨Nat.le_of_ble_eq_true rfl, Nat.le_of_ble_eq_true rfl⟩ dX11_fired_13 (fun v ty' w' hp hk' => ?_)
    obtain ⟨I5420, A5420, hI5420, hA5420, hV5420, y5419, hC, rfl, rfl⟩ := hp
    replace hF := FE.bdX hF hC
    show GW κ 2 0 0 (wX q d I5420 A5420) 16 [(0, .ref (q 0)), (1, .int z1)] [.int y5419]
    have b5421l := Int32.le_toInt y5419
    have b5421h := Int32.toInt_lt y5419
    exact g_iret hk hR rfl ⟨I5420, A5420, (show Md [28, 30, 31, 32, 33, 34] I I5420 from (Md.tr Md.rf hI5420 rfl)), (show Md [21, 22, 23] A A5420 from (Md.tr Md.rf hA5420 rfl)), hV5420, y5419, hF, rfl, rfl⟩ dX11_fired_16
  · skip
    replace hF := FE.neg hF c5225
    refine g_iconst (v := (-1)) hk dX11_fired_4 (by decide) ?_
    refine g_goto (tgt := 16) hk dX11_fired_5 (by decide) ?_
    exact g_iret hk hR rfl ⟨I, A, (show Md [28, 30, 31, 32, 33, 34] I I from Md.rf), (show Md [21, 22, 23] A A from Md.rf), hIv, (-1), hF, rfl, rfl⟩ dX11_fired_16
noncomputable def fX2_isLess (I : Nat → Int32) (A : Nat → Nat → Int32) (z1 : Int32) : Int32 × (Nat → Int32) × (Nat → Nat → Int32) := f_lt (fX2_endsBound I A) fun y5464 => if y5464.toInt < z1.toInt then f_bdX (fX2_layTable I A z1) fun _ I5469 A5469 => if (I5469 34).toInt ≠ (-2) then (0, I5469, A5469) else f_lt (fX2_laidDistance I5469 A5469) fun y5472 => if z1.toInt ≤ y5472.toInt then (0, I5469, A5469) else (1, I5469, A5469) else (0, I, A)
def wo_k264_X2_isLess : List Cond := [Cond.methodLink RX2 82 yX2_endsBound, Cond.instanceMethod yX2_endsBound, Cond.selects RX2 yX2_endsBound yX2_endsBound, Cond.initialized RX2, Cond.methodLink RX2 86 yX2_layTable, Cond.instanceMethod yX2_layTable, Cond.selects RX2 yX2_layTable yX2_layTable, Cond.fieldLink RX2 79 "WarpDesk$Fit" "brokenRow" "I", Cond.methodLink RX2 90 yX2_laidDistance, Cond.instanceMethod yX2_laidDistance, Cond.selects RX2 yX2_laidDistance yX2_laidDistance]
def wz_k264_X2_isLess : List Cond := .code yX2_isLess cX2_isLess 2 (some .boolean) :: (wo_k264_X2_isLess ++ (wsX20 ++ (wz_k239_X2_endsBound ++ (wz_k233_X2_layTable ++ (wz_k237_X2_laidDistance ++ ([] : List Cond))))))
theorem zg_k264_X2_isLess : ∀ w ∈ wz_k264_X2_isLess, goodWord w = true := zg_cons rfl (zg_app (by decide +kernel) (zg_app zgU_wsX20 (zg_app zg_k239_X2_endsBound (zg_app zg_k233_X2_layTable (zg_app zg_k237_X2_laidDistance zg_nil)))))
theorem zi_k264_X2_isLess : ∀ w ∈ wz_k264_X2_isLess, w ∈ lw_tbl := zi_cons zw_1127 (zi_app (zi_cons zw_1049 (zi_cons zw_1022 (zi_cons zw_1023 (zi_cons zw_112 (zi_cons zw_997 (zi_cons zw_999 (zi_cons zw_28 (zi_cons zw_350 (zi_cons zw_1013 (zi_cons zw_1014 (zi_cons zw_1015 zi_nil))))))))))) (zi_app inX2 (zi_app zi_k239_X2_endsBound (zi_app zi_k233_X2_layTable (zi_app zi_k237_X2_laidDistance zi_nil)))))
set_option maxHeartbeats 4000000 in
set_option maxRecDepth 100000 in
theorem k264_X2_isLess (l : Launch) (D : va_G) (zt : Nat × Nat × Nat × (Nat → Nat) × (Nat → Nat)) (q : Nat → Nat) (d : Nat → ClassId) (I : Nat → Int32) (A : Nat → Nat → Int32) (z1 : Int32) (hIv : IvX I A) : GM l D zt (tyX d) yX2_isLess wz_k264_X2_isLess ({ frames := 3, cells := 0, slots := 0, locals := 72 } : Room) [.ref (q 38), .int z1] (wX q d I A) (fun v _ w' => ∃ (I' : Nat → Int32) (A' : Nat → Nat → Int32), Md [33, 34] I I' ∧ Md [23] A A' ∧ IvX I' A' ∧ ∃ y0 : Int32, (0 ≤ y0.toInt) ∧ (y0.toInt ≤ 1) ∧ FE (fX2_isLess I A z1) (y0, I', A') ∧ v = some (.int y0) ∧ w' = wX q d I' A') 0 0 := by
  refine GM.of (cc := cX2_isLess) (maxL := 2) (ret := (some .boolean)) (own := RX2) (lv := [(0, .ref (q 38)), (1, .int z1)]) (by decide) rfl rfl (Nat.le_of_ble_eq_true rfl) rfl (fun κ sz hk hR hN => ?_)
  have hin2 : ∀ w ∈ u_ws RX2 TX2 10, w ∈ wz_k264_X2_isLess := fun w h => (List.mem_cons_of_mem _ (List.mem_append_right _ (List.mem_append_left _ h)))
  have hF : FE (fX2_isLess I A z1) (fX2_isLess I A z1) := FE.rf
  refine g_aload_n hk dX2_isLess_0 rfl ?_
  refine g_callV (n := 0) hk (k239_X2_endsBound l D zt q d I A  hIv) (SP.same _) (fun _ h => h) (gi_V (List.mem_cons_of_mem _ (List.mem_append_left _ (List.mem_of_getElem? (i := 0) rfl))) (List.mem_cons_of_mem _ (List.mem_append_left _ (List.mem_of_getElem? (i := 1) rfl))) (List.mem_cons_of_mem _ (List.mem_append_left _ (List.mem_of_getElem? (i := 2) rfl))) (List.mem_cons_of_mem _ (List.mem_append_left _ (List.mem_of_getElem? (i := 3) rfl))) (gi_sub (fun w h => (List.mem_cons_of_mem _ (List.mem_append_right _ (List.mem_append_right _ (List.mem_append_left _ h))))) zg_k239_X2_endsBound)) rfl rfl rfl (by decide +kernel) ⟨Nat.le_of_ble_eq_true rfl, Nat.le_of_ble_eq_true rfl⟩ 38 rfl rfl rfl rfl (Nat.le_of_ble_eq_true rfl) ⟨Nat.le_of_ble_eq_true rfl, Nat.le_of_ble_eq_true rfl⟩ dX2_isLess_1 (fun v ty' w' hp hk' => ?_)
  obtain ⟨y5464, hC, rfl, rfl⟩ := hp
  replace hF := FE.lt hF (fe_s hC)
  show GW κ 2 0 0 (wX q d I A) 4 [(0, .ref (q 38)), (1, .int z1)] [.int y5464]
  refine g_iload_n hk dX2_isLess_4 rfl ?_
  have b5465l := Int32.le_toInt y5464
  have b5465h := Int32.toInt_lt y5464
  have b5466l := Int32.le_toInt z1
  have b5466h := Int32.toInt_lt z1
  refine g_icmp_lt (tgt := 10) (a := y5464.toInt) (b := z1.toInt) hk dX2_isLess_5 (by decide) rfl rfl (fun c5467 => ?_) (fun c5467 => ?_)
  · skip
    replace hF := FE.pos hF c5467
    refine g_aload_n hk dX2_isLess_10 rfl ?_
    refine g_iload_n hk dX2_isLess_11 rfl ?_
    refine g_callV (n := 1) hk (k233_X2_layTable l D zt q d I A z1 hIv) (SP.same _) (fun _ h => h) (gi_V (List.mem_cons_of_mem _ (List.mem_append_left _ (List.mem_of_getElem? (i := 4) rfl))) (List.mem_cons_of_mem _ (List.mem_append_left _ (List.mem_of_getElem? (i := 5) rfl))) (List.mem_cons_of_mem _ (List.mem_append_left _ (List.mem_of_getElem? (i := 6) rfl))) (List.mem_cons_of_mem _ (List.mem_append_left _ (List.mem_of_getElem? (i := 3) rfl))) (gi_sub (fun w h => (List.mem_cons_of_mem _ (List.mem_append_right _ (List.mem_append_right _ (List.mem_append_right _ (List.mem_append_left _ h)))))) zg_k233_X2_layTable)) rfl rfl rfl (by decide +kernel) ⟨Nat.le_of_ble_eq_true rfl, Nat.le_of_ble_eq_true rfl⟩ 38 rfl rfl rfl rfl (Nat.le_of_ble_eq_true rfl) ⟨Nat.le_of_ble_eq_true rfl, Nat.le_of_ble_eq_true rfl⟩ dX2_isLess_12 (fun v ty' w' hp hk' => ?_)
    obtain ⟨I5469, A5469, hI5469, hA5469, hV5469, hC, rfl, rfl⟩ := hp
    replace hF := FE.bdX hF hC
    show GW κ 2 0 0 (wX q d I5469 A5469) 15 [(0, .ref (q 38)), (1, .int z1)] []
    refine g_aload_n hk dX2_isLess_15 rfl ?_
    refine gX_i34 (v := (I5469 34)) hk hin2 (List.mem_cons_of_mem _ (List.mem_append_left _ (List.mem_of_getElem? (i := 7) rfl))) dX2_isLess_16 rfl ?_
    refine g_bipush (v := (-2)) hk dX2_isLess_19 (by decide) ?_
    have b5470l := Int32.le_toInt (I5469 34)
    have b5470h := Int32.toInt_lt (I5469 34)
    refine g_icmp_ne (tgt := 36) (a := (I5469 34).toInt) (b := (-2)) hk dX2_isLess_21 (by decide) rfl rfl (fun c5471 => ?_) (fun c5471 => ?_)
    · skip
      replace hF := FE.pos hF c5471
      refine g_iconst (v := 0) hk dX2_isLess_36 (by decide) ?_
      exact g_iret hk hR rfl ⟨I5469, A5469, (show Md [33, 34] I I5469 from (Md.tr Md.rf hI5469 rfl)), (show Md [23] A A5469 from (Md.tr Md.rf hA5469 rfl)), hV5469, 0, (by decide), (by decide), hF, rfl, rfl⟩ dX2_isLess_37
    · skip
      replace hF := FE.neg hF c5471
      refine g_aload_n hk dX2_isLess_24 rfl ?_
      refine g_callV (n := 0) hk (k237_X2_laidDistance l D zt q d I5469 A5469  hV5469) (SP.same _) (fun _ h => h) (gi_V (List.mem_cons_of_mem _ (List.mem_append_left _ (List.mem_of_getElem? (i := 8) rfl))) (List.mem_cons_of_mem _ (List.mem_append_left _ (List.mem_of_getElem? (i := 9) rfl))) (List.mem_cons_of_mem _ (List.mem_append_left _ (List.mem_of_getElem? (i := 10) rfl))) (List.mem_cons_of_mem _ (List.mem_append_left _ (List.mem_of_getElem? (i := 3) rfl))) (gi_sub (fun w h => (List.mem_cons_of_mem _ (List.mem_append_right _ (List.mem_append_right _ (List.mem_append_right _ (List.mem_append_right _ (List.mem_append_left _ h))))))) zg_k237_X2_laidDistance)) rfl rfl rfl (by decide +kernel) ⟨Nat.le_of_ble_eq_true rfl, Nat.le_of_ble_eq_true rfl⟩ 38 rfl rfl rfl rfl (Nat.le_of_ble_eq_true rfl) ⟨Nat.le_of_ble_eq_true rfl, Nat.le_of_ble_eq_true rfl⟩ dX2_isLess_25 (fun v ty' w' hp hk' => ?_)
      obtain ⟨y5472, hC, rfl, rfl⟩ := hp
      replace hF := FE.lt hF (fe_s hC)
      show GW κ 2 0 0 (wX q d I5469 A5469) 28 [(0, .ref (q 38)), (1, .int z1)] [.int y5472]
      refine g_iload_n hk dX2_isLess_28 rfl ?_
      have b5473l := Int32.le_toInt y5472
      have b5473h := Int32.toInt_lt y5472
      refine g_icmp_ge (tgt := 36) (a := y5472.toInt) (b := z1.toInt) hk dX2_isLess_29 (by decide) rfl rfl (fun c5474 => ?_) (fun c5474 => ?_)
      · skip
        replace hF := FE.pos hF c5474
        refine g_iconst (v := 0) hk dX2_isLess_36 (by decide) ?_
        exact g_iret hk hR rfl ⟨I5469, A5469, (show Md [33, 34] I I5469 from (Md.tr Md.rf hI5469 rfl)), (show Md [23] A A5469 from (Md.tr Md.rf hA5469 rfl)), hV5469, 0, (by decide), (by decide), hF, rfl, rfl⟩ dX2_isLess_37
      · skip
        replace hF := FE.neg hF c5474
        refine g_iconst (v := 1) hk dX2_isLess_32 (by decide) ?_
        refine g_goto (tgt := 37) hk dX2_isLess_33 (by decide) ?_
        exact g_iret hk hR rfl ⟨I5469, A5469, (show Md [33, 34] I I5469 from (Md.tr Md.rf hI5469 rfl)), (show Md [23] A A5469 from (Md.tr Md.rf hA5469 rfl)), hV5469, 1, (by decide), (by decide), hF, rfl, rfl⟩ dX2_isLess_37
  · skip
    replace hF := FE.neg hF c5467
    refine g_iconst (v := 0) hk dX2_isLess_8 (by decide) ?_
    exact g_iret hk hR rfl ⟨I, A, (show Md [33, 34] I I from Md.rf), (show Md [23] A A from Md.rf), hIv, 0, (by decide), (by decide), hF, rfl, rfl⟩ dX2_isLess_9
noncomputable def bX1_findBest_27 (I : Nat → Int32) (z1 : Int32) : (Int32 → Int32 → (Nat → Int32) → (Nat → Nat → Int32) → (Int32 × (Nat → Int32) × (Nat → Nat → Int32))) → Int32 → Int32 → (Nat → Int32) → (Nat → Nat → Int32) → (Int32 × (Nat → Int32) × (Nat → Nat → Int32)) := fun kk5659 x5435 x5436 I5440 A5440 => if (I 18).toInt ≤ x5435.toInt then (0, I5440, A5440) else if (fX4_lengthOf_2 I5440 A5440 z1).2 = 0 then if fX6_hasWindow I5440 A5440 x5435 0 = 0 then f_lt (x5435 + Int32.ofInt 1) fun y5682 => kk5659 y5682 x5436 I5440 A5440 else f_bdX (fX0_laySecondWindow I5440 A5440 x5435) fun _ I5684 A5684 => f_bdX (fX2_isLess I5684 A5684 x5436) fun y5685 I5688 A5688 => if y5685.toInt = 0 then f_lt (x5435 + Int32.ofInt 1) fun y5690 => kk5659 y5690 x5436 I5688 A5688 else f_lt (fX2_laidDistance I5688 A5688) fun y5691 => f_lt (x5435 + Int32.ofInt 1) fun y5692 => kk5659 y5692 y5691 (upd (upd I5688 35 x5435) 36 y5691) A5688 else f_lt (fX4_lengthOf_2 I5440 A5440 z1).1 fun y5670 => if fX6_hasWindow I5440 A5440 x5435 y5670 = 0 then f_lt (x5435 + Int32.ofInt 1) fun y5701 => kk5659 y5701 x5436 I5440 A5440 else f_bdX (fX0_laySecondWindow I5440 A5440 x5435) fun _ I5703 A5703 => f_bdX (fX2_isLess I5703 A5703 x5436) fun y5704 I5707 A5707 => if y5704.toInt = 0 then f_lt (x5435 + Int32.ofInt 1) fun y5709 => kk5659 y5709 x5436 I5707 A5707 else f_lt (fX2_laidDistance I5707 A5707) fun y5710 => f_lt (x5435 + Int32.ofInt 1) fun y5711 => kk5659 y5711 y5710 (upd (upd I5707 35 x5435) 36 y5710) A5707
noncomputable def fX1_findBest (I : Nat → Int32) (A : Nat → Nat → Int32) (z1 : Int32) (z2 : Int32) : Int32 × (Nat → Int32) × (Nat → Nat → Int32) := f_bdX (fX0_openQuery (upd (upd I 35 (-2)) 36 (-2)) A z1 z2) fun _ I5434 A5434 => itr_iiIA dfX (bX1_findBest_27 I z1) FU 0 2147483647 I5434 A5434
def wo_k263_X1_findBest : List Cond := [Cond.fieldLink RX1 100 "WarpDesk$Finder" "bestWindow" "I", Cond.fieldLink RX1 103 "WarpDesk$Finder" "bestDistance" "I", Cond.constant RX1 44 (2147483647), Cond.fieldLink RX1 28 "WarpDesk$Finder" "bench" "LWarpDesk$Bench;", Cond.methodLink RX1 55 yX0_openQuery, Cond.instanceMethod yX0_openQuery, Cond.selects RX0 yX0_openQuery yX0_openQuery, Cond.initialized RX0, Cond.fieldLink RX1 38 "WarpDesk$Finder" "series" "LWarpDesk$Series;", Cond.fieldLink RX1 59 "WarpDesk$Series" "size" "I", Cond.fieldLink RX1 43 "WarpDesk$Finder" "queries" "LWarpDesk$Queries;", Cond.methodLink RX1 65 yX4_lengthOf, Cond.instanceMethod yX4_lengthOf, Cond.selects RX4 yX4_lengthOf yX4_lengthOf, Cond.initialized RX4, Cond.methodLink RX1 70 yX6_hasWindow, Cond.instanceMethod yX6_hasWindow, Cond.selects RX6 yX6_hasWindow yX6_hasWindow, Cond.initialized RX6, Cond.methodLink RX1 74 yX0_laySecondWindow, Cond.instanceMethod yX0_laySecondWindow, Cond.selects RX0 yX0_laySecondWindow yX0_laySecondWindow, Cond.fieldLink RX1 78 "WarpDesk$Bench" "fit" "LWarpDesk$Fit;", Cond.methodLink RX1 106 yX2_isLess, Cond.instanceMethod yX2_isLess, Cond.selects RX2 yX2_isLess yX2_isLess, Cond.initialized RX2, Cond.methodLink RX1 90 yX2_laidDistance, Cond.instanceMethod yX2_laidDistance, Cond.selects RX2 yX2_laidDistance yX2_laidDistance]
def wz_k263_X1_findBest : List Cond := .code yX1_findBest cX1_findBest 5 none :: (wo_k263_X1_findBest ++ (wsX00 ++ (wsX10 ++ (wsX60 ++ (wz_k224_X0_openQuery ++ (wz_k165_X4_lengthOf ++ (wz_k207_X6_hasWindow ++ (wz_k226_X0_laySecondWindow ++ (wz_k264_X2_isLess ++ (wz_k237_X2_laidDistance ++ ([] : List Cond)))))))))))
theorem zg_k263_X1_findBest : ∀ w ∈ wz_k263_X1_findBest, goodWord w = true := zg_cons rfl (zg_app (by decide +kernel) (zg_app zgU_wsX00 (zg_app zgU_wsX10 (zg_app zgU_wsX60 (zg_app zg_k224_X0_openQuery (zg_app zg_k165_X4_lengthOf (zg_app zg_k207_X6_hasWindow (zg_app zg_k226_X0_laySecondWindow (zg_app zg_k264_X2_isLess (zg_app zg_k237_X2_laidDistance zg_nil))))))))))
theorem zi_k263_X1_findBest : ∀ w ∈ wz_k263_X1_findBest, w ∈ lw_tbl := zi_cons zw_1120 (zi_app (zi_cons zw_407 (zi_cons zw_409 (zi_cons zw_1101 (zi_cons zw_402 (zi_cons zw_1121 (zi_cons zw_981 (zi_cons zw_982 (zi_cons zw_111 (zi_cons zw_403 (zi_cons zw_283 (zi_cons zw_404 (zi_cons zw_1102 (zi_cons zw_757 (zi_cons zw_758 (zi_cons zw_108 (zi_cons zw_1122 (zi_cons zw_902 (zi_cons zw_903 (zi_cons zw_109 (zi_cons zw_1123 (zi_cons zw_989 (zi_cons zw_990 (zi_cons zw_382 (zi_cons zw_1124 (zi_cons zw_1125 (zi_cons zw_1126 (zi_cons zw_112 (zi_cons zw_1128 (zi_cons zw_1014 (zi_cons zw_1015 zi_nil)))))))))))))))))))))))))))))) (zi_app inX0 (zi_app inX1 (zi_app inX6 (zi_app zi_k224_X0_openQuery (zi_app zi_k165_X4_lengthOf (zi_app zi_k207_X6_hasWindow (zi_app zi_k226_X0_laySecondWindow (zi_app zi_k264_X2_isLess (zi_app zi_k237_X2_laidDistance zi_nil))))))))))
set_option maxHeartbeats 4000000 in
set_option maxRecDepth 100000 in
theorem k263_X1_findBest (l : Launch) (D : va_G) (zt : Nat × Nat × Nat × (Nat → Nat) × (Nat → Nat)) (q : Nat → Nat) (d : Nat → ClassId) (I : Nat → Int32) (A : Nat → Nat → Int32) (z1 : Int32) (z2 : Int32) (hIv : IvX I A) : GM l D zt (tyX d) yX1_findBest wz_k263_X1_findBest ({ frames := 5, cells := 0, slots := 0, locals := 109 } : Room) [.ref (q 43), .int z1, .int z2] (wX q d I A) (fun v _ w' => ∃ (I' : Nat → Int32) (A' : Nat → Nat → Int32), Md [28, 30, 31, 32, 33, 34, 35, 36] I I' ∧ Md [21, 22, 23] A A' ∧ IvX I' A' ∧ FE (fX1_findBest I A z1 z2) (0, I', A') ∧ v = none ∧ w' = wX q d I' A') 0 0 := by
  refine GM.of (cc := cX1_findBest) (maxL := 5) (ret := none) (own := RX1) (lv := [(0, .ref (q 43)), (1, .int z1), (2, .int z2)]) (by decide) rfl rfl (Nat.le_of_ble_eq_true rfl) rfl (fun κ sz hk hR hN => ?_)
  have hin0 : ∀ w ∈ u_ws RX0 TX0 5, w ∈ wz_k263_X1_findBest := fun w h => (List.mem_cons_of_mem _ (List.mem_append_right _ (List.mem_append_left _ h)))
  have hin1 : ∀ w ∈ u_ws RX1 TX1 11, w ∈ wz_k263_X1_findBest := fun w h => (List.mem_cons_of_mem _ (List.mem_append_right _ (List.mem_append_right _ (List.mem_append_left _ h))))
  have hin6 : ∀ w ∈ u_ws RX6 TX6 3, w ∈ wz_k263_X1_findBest := fun w h => (List.mem_cons_of_mem _ (List.mem_append_right _ (List.mem_append_right _ (List.mem_append_right _ (List.mem_append_left _ h)))))
  have hF : FE (fX1_findBest I A z1 z2) (fX1_findBest I A z1 z2) := FE.rf
  refine g_aload_n hk dX1_findBest_0 rfl ?_
  refine g_bipush (v := (-2)) hk dX1_findBest_1 (by decide) ?_
  refine pX_i35 hk hin1 (List.mem_cons_of_mem _ (List.mem_append_left _ (List.mem_of_getElem? (i := 0) rfl))) dX1_findBest_3 ?_
  refine g_aload_n hk dX1_findBest_6 rfl ?_
  refine g_bipush (v := (-2)) hk dX1_findBest_7 (by decide) ?_
  refine pX_i36 hk hin1 (List.mem_cons_of_mem _ (List.mem_append_left _ (List.mem_of_getElem? (i := 1) rfl))) dX1_findBest_9 ?_
  refine g_ldc (v := 2147483647) hk (List.mem_cons_of_mem _ (List.mem_append_left _ (List.mem_of_getElem? (i := 2) rfl))) dX1_findBest_12 ?_
  refine g_istore_n (lv' := [(3, .int 2147483647), (0, .ref (q 43)), (1, .int z1), (2, .int z2)]) hk dX1_findBest_14 (by decide) rfl ?_
  refine g_aload_n hk dX1_findBest_15 rfl ?_
  refine gX_r43_0 hk hin1 (List.mem_cons_of_mem _ (List.mem_append_left _ (List.mem_of_getElem? (i := 3) rfl))) dX1_findBest_16 ?_
  refine g_iload_n hk dX1_findBest_19 rfl ?_
  refine g_iload_n hk dX1_findBest_20 rfl ?_
  refine g_callV (n := 2) hk (k224_X0_openQuery l D zt q d (upd (upd I 35 (-2)) 36 (-2)) A z1 z2 ⟨(IvX_f0 (I := I) (A := A) hIv), (IvX_f18 (I := I) (A := A) hIv), (IvX_f30 (I := I) (A := A) hIv), (IvX_f31 (I := I) (A := A) hIv), (IvX_a4 (I := I) (A := A) hIv), (IvX_a9 (I := I) (A := A) hIv), trivial⟩) (SP.same _) (fun _ h => h) (gi_V (List.mem_cons_of_mem _ (List.mem_append_left _ (List.mem_of_getElem? (i := 4) rfl))) (List.mem_cons_of_mem _ (List.mem_append_left _ (List.mem_of_getElem? (i := 5) rfl))) (List.mem_cons_of_mem _ (List.mem_append_left _ (List.mem_of_getElem? (i := 6) rfl))) (List.mem_cons_of_mem _ (List.mem_append_left _ (List.mem_of_getElem? (i := 7) rfl))) (gi_sub (fun w h => (List.mem_cons_of_mem _ (List.mem_append_right _ (List.mem_append_right _ (List.mem_append_right _ (List.mem_append_right _ (List.mem_append_left _ h))))))) zg_k224_X0_openQuery)) rfl rfl rfl (by decide +kernel) ⟨Nat.le_of_ble_eq_true rfl, Nat.le_of_ble_eq_true rfl⟩ 37 rfl rfl rfl rfl (Nat.le_of_ble_eq_true rfl) ⟨Nat.le_of_ble_eq_true rfl, Nat.le_of_ble_eq_true rfl⟩ dX1_findBest_21 (fun v ty' w' hp hk' => ?_)
  obtain ⟨I5434, A5434, hI5434, hA5434, hV5434, hC, rfl, rfl⟩ := hp
  replace hF := FE.bdX hF hC
  show GW κ 5 0 0 (wX q d I5434 A5434) 24 [(3, .int 2147483647), (0, .ref (q 43)), (1, .int z1), (2, .int z2)] []
  refine g_iconst (v := 0) hk dX1_findBest_24 (by decide) ?_
  refine g_istore (lv' := [(4, .int 0), (3, .int 2147483647), (0, .ref (q 43)), (1, .int z1), (2, .int z2)]) hk dX1_findBest_25 (by decide) rfl ?_
  have lp5656 : ∀ (n5657 : Nat) (x5435 : Int32) (x5436 : Int32) (I5440 : Nat → Int32) (A5440 : Nat → Nat → Int32), (Md [33, 34, 35, 36] I5434 I5440) → (Md [22, 23] A5434 A5440) → (IvX I5440 A5440) → (0 ≤ x5435.toInt) → (x5435.toInt ≤ 160) → (161 - x5435.toInt < (n5657 : Int)) → (0 < n5657) → (FE (fX1_findBest I A z1 z2) (itr_iiIA dfX (bX1_findBest_27 I z1) n5657 x5435 x5436 I5440 A5440)) → GW κ 5 0 0 (wX q d I5440 A5440) 27 [(4, .int x5435), (3, .int x5436), (0, .ref (q 43)), (1, .int z1), (2, .int z2)] [] := by
    intro n5657
    induction n5657 with
    | zero =>
      intro x5435 x5436 I5440 A5440 hI5440 hA5440 hV5440 h5654 h5655 m5658 m5658z hF
      exact absurd m5658z (Nat.lt_irrefl 0)
    | succ n5657 ih5660 =>
      intro x5435 x5436 I5440 A5440 hI5440 hA5440 hV5440 h5654 h5655 m5658 m5658z hF
      replace hF := FE.itr_iiIA hF
      refine g_iload hk dX1_findBest_27 rfl ?_
      refine g_aload_n hk dX1_findBest_29 rfl ?_
      refine gX_r43_1 hk hin1 (List.mem_cons_of_mem _ (List.mem_append_left _ (List.mem_of_getElem? (i := 8) rfl))) dX1_findBest_30 ?_
      refine gX_i18 (v := (I 18)) hk hin6 (List.mem_cons_of_mem _ (List.mem_append_left _ (List.mem_of_getElem? (i := 9) rfl))) dX1_findBest_33 ((hI5440 18 rfl).trans (hI5434 18 rfl)) ?_
      have f5661 := IvX_f18 hIv
      refine g_icmp_ge (tgt := 110) (a := x5435.toInt) (b := (I 18).toInt) hk dX1_findBest_36 (by decide) rfl rfl (fun c5662 => ?_) (fun c5662 => ?_)
      · skip
        replace hF := FE.pos hF c5662
        exact g_vret hk hR ⟨I5440, A5440, (show Md [28, 30, 31, 32, 33, 34, 35, 36] I I5440 from (Md.tr (Md.tr (Md.up (Md.up Md.rf rfl) rfl) hI5434 rfl) hI5440 rfl)), (show Md [21, 22, 23] A A5440 from (Md.tr (Md.tr Md.rf hA5434 rfl) hA5440 rfl)), hV5440, hF, rfl, rfl⟩ dX1_findBest_110
      · skip
        replace hF := FE.neg hF c5662
        refine g_aload_n hk dX1_findBest_39 rfl ?_
        refine gX_r43_1 hk hin1 (List.mem_cons_of_mem _ (List.mem_append_left _ (List.mem_of_getElem? (i := 8) rfl))) dX1_findBest_40 ?_
        refine g_iload hk dX1_findBest_43 rfl ?_
        refine g_aload_n hk dX1_findBest_45 rfl ?_
        refine gX_r43_2 hk hin1 (List.mem_cons_of_mem _ (List.mem_append_left _ (List.mem_of_getElem? (i := 10) rfl))) dX1_findBest_46 ?_
        refine g_iload_n hk dX1_findBest_49 rfl ?_
        refine g_callV (n := 1) hk (k182_X4_lengthOf l D zt q d I5440 A5440 z1 hV5440) (SP.same _) (fun _ h => h) (gi_V (List.mem_cons_of_mem _ (List.mem_append_left _ (List.mem_of_getElem? (i := 11) rfl))) (List.mem_cons_of_mem _ (List.mem_append_left _ (List.mem_of_getElem? (i := 12) rfl))) (List.mem_cons_of_mem _ (List.mem_append_left _ (List.mem_of_getElem? (i := 13) rfl))) (List.mem_cons_of_mem _ (List.mem_append_left _ (List.mem_of_getElem? (i := 14) rfl))) (gi_sub (fun w h => (List.mem_cons_of_mem _ (List.mem_append_right _ (List.mem_append_right _ (List.mem_append_right _ (List.mem_append_right _ (List.mem_append_right _ (List.mem_append_left _ h)))))))) zg_k165_X4_lengthOf)) rfl rfl rfl (by decide +kernel) ⟨Nat.le_of_ble_eq_true rfl, Nat.le_of_ble_eq_true rfl⟩ 15 rfl rfl rfl rfl (Nat.le_of_ble_eq_true rfl) ⟨Nat.le_of_ble_eq_true rfl, Nat.le_of_ble_eq_true rfl⟩ dX1_findBest_50 (fun v ty' w' hp hk' => ?_)
        rcases hp with ⟨hC, rfl, rfl⟩ | ⟨y5670, c5664, c5665, c5666, c5667, c5668, c5669, c5671, c5672, hC, rfl, rfl⟩
        · skip
          replace hF := FE.pos hF (fe_2 hC)
          show GW κ 5 0 0 (wX q d I5440 A5440) 53 [(4, .int x5435), (3, .int x5436), (0, .ref (q 43)), (1, .int z1), (2, .int z2)] [.int 0, .int x5435, .ref (q 13)]
          have k5673 : (0 : Int32).toInt = 0 := rfl
          refine g_callV (n := 2) hk (k207_X6_hasWindow l D zt q d I5440 A5440 x5435 0 hV5440) (SP.same _) (fun _ h => h) (gi_V (List.mem_cons_of_mem _ (List.mem_append_left _ (List.mem_of_getElem? (i := 15) rfl))) (List.mem_cons_of_mem _ (List.mem_append_left _ (List.mem_of_getElem? (i := 16) rfl))) (List.mem_cons_of_mem _ (List.mem_append_left _ (List.mem_of_getElem? (i := 17) rfl))) (List.mem_cons_of_mem _ (List.mem_append_left _ (List.mem_of_getElem? (i := 18) rfl))) (gi_sub (fun w h => (List.mem_cons_of_mem _ (List.mem_append_right _ (List.mem_append_right _ (List.mem_append_right _ (List.mem_append_right _ (List.mem_append_right _ (List.mem_append_right _ (List.mem_append_left _ h))))))))) zg_k207_X6_hasWindow)) rfl rfl rfl (by decide +kernel) ⟨Nat.le_of_ble_eq_true rfl, Nat.le_of_ble_eq_true rfl⟩ 13 rfl rfl rfl rfl (Nat.le_of_ble_eq_true rfl) ⟨Nat.le_of_ble_eq_true rfl, Nat.le_of_ble_eq_true rfl⟩ dX1_findBest_53 (fun v ty' w' hp hk' => ?_)
          rcases hp with ⟨hC, rfl, rfl⟩ | ⟨c5675, c5676, c5677, c5678, c5679, c5680, hC, rfl, rfl⟩
          · skip
            replace hF := FE.pos hF hC
            show GW κ 5 0 0 (wX q d I5440 A5440) 56 [(4, .int x5435), (3, .int x5436), (0, .ref (q 43)), (1, .int z1), (2, .int z2)] [.int 0]
            refine g_if_eq (tgt := 104) (a := 0) hk dX1_findBest_56 (by decide) rfl (fun _ => ?_) (fun z9 => absurd (show (0 : Int) = (0 : Int) from by decide) z9)
            obtain ⟨y5682, ey5682⟩ : ∃ y : Int32, y = x5435 + Int32.ofInt 1 := ⟨_, rfl⟩
            replace hF := FE.lt hF ey5682
            have hy5682 : y5682.toInt = x5435.toInt + 1 := i32_add ey5682 rfl (by decide) (by omega) (by omega)
            refine g_iinc (v := y5682) (lv' := [(4, .int y5682), (3, .int x5436), (0, .ref (q 43)), (1, .int z1), (2, .int z2)]) hk 0 dX1_findBest_104 rfl ey5682.symm (by decide) rfl ?_
            refine g_goto (tgt := 27) hk dX1_findBest_107 (by decide) ?_
            exact g_lv (List.forall_mem_cons.mpr ⟨List.mem_of_getElem? (i := 0) rfl, (List.forall_mem_cons.mpr ⟨List.mem_of_getElem? (i := 1) rfl, (List.forall_mem_cons.mpr ⟨List.mem_of_getElem? (i := 2) rfl, (List.forall_mem_cons.mpr ⟨List.mem_of_getElem? (i := 3) rfl, (List.forall_mem_cons.mpr ⟨List.mem_of_getElem? (i := 4) rfl, (fun _ h => absurd h List.not_mem_nil)⟩)⟩)⟩)⟩)⟩) (ih5660 y5682 x5436 I5440 A5440 (show Md [33, 34, 35, 36] I5434 I5440 from Md.tr hI5440 (show Md [33, 34, 35, 36] I5440 I5440 from Md.rf) rfl) (show Md [22, 23] A5434 A5440 from Md.tr hA5440 (show Md [22, 23] A5440 A5440 from Md.rf) rfl) hV5440 (by omega) (by omega) (by omega) (by omega) hF)
          · skip
            replace hF := FE.neg hF (fe_ne hC (by decide))
            show GW κ 5 0 0 (wX q d I5440 A5440) 56 [(4, .int x5435), (3, .int x5436), (0, .ref (q 43)), (1, .int z1), (2, .int z2)] [.int 1]
            refine g_if_eq (tgt := 104) (a := 1) hk dX1_findBest_56 (by decide) rfl (fun z9 => absurd z9 (show ¬ ((1 : Int) = (0 : Int)) from by decide)) (fun _ => ?_)
            refine g_aload_n hk dX1_findBest_59 rfl ?_
            refine gX_r43_0 hk hin1 (List.mem_cons_of_mem _ (List.mem_append_left _ (List.mem_of_getElem? (i := 3) rfl))) dX1_findBest_60 ?_
            refine g_iload hk dX1_findBest_63 rfl ?_
            refine g_callV (n := 1) hk (k226_X0_laySecondWindow l D zt q d I5440 A5440 x5435 hV5440) (SP.same _) (fun _ h => h) (gi_V (List.mem_cons_of_mem _ (List.mem_append_left _ (List.mem_of_getElem? (i := 19) rfl))) (List.mem_cons_of_mem _ (List.mem_append_left _ (List.mem_of_getElem? (i := 20) rfl))) (List.mem_cons_of_mem _ (List.mem_append_left _ (List.mem_of_getElem? (i := 21) rfl))) (List.mem_cons_of_mem _ (List.mem_append_left _ (List.mem_of_getElem? (i := 7) rfl))) (gi_sub (fun w h => (List.mem_cons_of_mem _ (List.mem_append_right _ (List.mem_append_right _ (List.mem_append_right _ (List.mem_append_right _ (List.mem_append_right _ (List.mem_append_right _ (List.mem_append_right _ (List.mem_append_left _ h)))))))))) zg_k226_X0_laySecondWindow)) rfl rfl rfl (by decide +kernel) ⟨Nat.le_of_ble_eq_true rfl, Nat.le_of_ble_eq_true rfl⟩ 37 rfl rfl rfl rfl (Nat.le_of_ble_eq_true rfl) ⟨Nat.le_of_ble_eq_true rfl, Nat.le_of_ble_eq_true rfl⟩ dX1_findBest_65 (fun v ty' w' hp hk' => ?_)
            obtain ⟨I5684, A5684, hI5684, hA5684, hV5684, hC, rfl, rfl⟩ := hp
            replace hF := FE.bdX hF hC
            show GW κ 5 0 0 (wX q d I5684 A5684) 68 [(4, .int x5435), (3, .int x5436), (0, .ref (q 43)), (1, .int z1), (2, .int z2)] []
            refine g_aload_n hk dX1_findBest_68 rfl ?_
            refine gX_r43_0 hk hin1 (List.mem_cons_of_mem _ (List.mem_append_left _ (List.mem_of_getElem? (i := 3) rfl))) dX1_findBest_69 ?_
            refine gX_r37_3 hk hin0 (List.mem_cons_of_mem _ (List.mem_append_left _ (List.mem_of_getElem? (i := 22) rfl))) dX1_findBest_72 ?_
            refine g_iload_n hk dX1_findBest_75 rfl ?_
            refine g_callV (n := 1) hk (k264_X2_isLess l D zt q d I5684 A5684 x5436 hV5684) (SP.same _) (fun _ h => h) (gi_V (List.mem_cons_of_mem _ (List.mem_append_left _ (List.mem_of_getElem? (i := 23) rfl))) (List.mem_cons_of_mem _ (List.mem_append_left _ (List.mem_of_getElem? (i := 24) rfl))) (List.mem_cons_of_mem _ (List.mem_append_left _ (List.mem_of_getElem? (i := 25) rfl))) (List.mem_cons_of_mem _ (List.mem_append_left _ (List.mem_of_getElem? (i := 26) rfl))) (gi_sub (fun w h => (List.mem_cons_of_mem _ (List.mem_append_right _ (List.mem_append_right _ (List.mem_append_right _ (List.mem_append_right _ (List.mem_append_right _ (List.mem_append_right _ (List.mem_append_right _ (List.mem_append_right _ (List.mem_append_left _ h))))))))))) zg_k264_X2_isLess)) rfl rfl rfl (by decide +kernel) ⟨Nat.le_of_ble_eq_true rfl, Nat.le_of_ble_eq_true rfl⟩ 38 rfl rfl rfl rfl (Nat.le_of_ble_eq_true rfl) ⟨Nat.le_of_ble_eq_true rfl, Nat.le_of_ble_eq_true rfl⟩ dX1_findBest_76 (fun v ty' w' hp hk' => ?_)
            obtain ⟨I5688, A5688, hI5688, hA5688, hV5688, y5685, c5686, c5687, hC, rfl, rfl⟩ := hp
            replace hF := FE.bdX hF hC
            show GW κ 5 0 0 (wX q d I5688 A5688) 79 [(4, .int x5435), (3, .int x5436), (0, .ref (q 43)), (1, .int z1), (2, .int z2)] [.int y5685]
            refine g_if_eq (tgt := 104) (a := y5685.toInt) hk dX1_findBest_79 (by decide) rfl (fun c5689 => ?_) (fun c5689 => ?_)
            · skip
              replace hF := FE.pos hF c5689
              obtain ⟨y5690, ey5690⟩ : ∃ y : Int32, y = x5435 + Int32.ofInt 1 := ⟨_, rfl⟩
              replace hF := FE.lt hF ey5690
              have hy5690 : y5690.toInt = x5435.toInt + 1 := i32_add ey5690 rfl (by decide) (by omega) (by omega)
              refine g_iinc (v := y5690) (lv' := [(4, .int y5690), (3, .int x5436), (0, .ref (q 43)), (1, .int z1), (2, .int z2)]) hk 0 dX1_findBest_104 rfl ey5690.symm (by decide) rfl ?_
              refine g_goto (tgt := 27) hk dX1_findBest_107 (by decide) ?_
              exact g_lv (List.forall_mem_cons.mpr ⟨List.mem_of_getElem? (i := 0) rfl, (List.forall_mem_cons.mpr ⟨List.mem_of_getElem? (i := 1) rfl, (List.forall_mem_cons.mpr ⟨List.mem_of_getElem? (i := 2) rfl, (List.forall_mem_cons.mpr ⟨List.mem_of_getElem? (i := 3) rfl, (List.forall_mem_cons.mpr ⟨List.mem_of_getElem? (i := 4) rfl, (fun _ h => absurd h List.not_mem_nil)⟩)⟩)⟩)⟩)⟩) (ih5660 y5690 x5436 I5688 A5688 (show Md [33, 34, 35, 36] I5434 I5688 from Md.tr hI5440 (show Md [33, 34, 35, 36] I5440 I5688 from (Md.tr (Md.tr Md.rf hI5684 rfl) hI5688 rfl)) rfl) (show Md [22, 23] A5434 A5688 from Md.tr hA5440 (show Md [22, 23] A5440 A5688 from (Md.tr (Md.tr Md.rf hA5684 rfl) hA5688 rfl)) rfl) hV5688 (by omega) (by omega) (by omega) (by omega) hF)
            · skip
              replace hF := FE.neg hF c5689
              refine g_aload_n hk dX1_findBest_82 rfl ?_
              refine gX_r43_0 hk hin1 (List.mem_cons_of_mem _ (List.mem_append_left _ (List.mem_of_getElem? (i := 3) rfl))) dX1_findBest_83 ?_
              refine gX_r37_3 hk hin0 (List.mem_cons_of_mem _ (List.mem_append_left _ (List.mem_of_getElem? (i := 22) rfl))) dX1_findBest_86 ?_
              refine g_callV (n := 0) hk (k237_X2_laidDistance l D zt q d I5688 A5688  hV5688) (SP.same _) (fun _ h => h) (gi_V (List.mem_cons_of_mem _ (List.mem_append_left _ (List.mem_of_getElem? (i := 27) rfl))) (List.mem_cons_of_mem _ (List.mem_append_left _ (List.mem_of_getElem? (i := 28) rfl))) (List.mem_cons_of_mem _ (List.mem_append_left _ (List.mem_of_getElem? (i := 29) rfl))) (List.mem_cons_of_mem _ (List.mem_append_left _ (List.mem_of_getElem? (i := 26) rfl))) (gi_sub (fun w h => (List.mem_cons_of_mem _ (List.mem_append_right _ (List.mem_append_right _ (List.mem_append_right _ (List.mem_append_right _ (List.mem_append_right _ (List.mem_append_right _ (List.mem_append_right _ (List.mem_append_right _ (List.mem_append_right _ (List.mem_append_left _ h)))))))))))) zg_k237_X2_laidDistance)) rfl rfl rfl (by decide +kernel) ⟨Nat.le_of_ble_eq_true rfl, Nat.le_of_ble_eq_true rfl⟩ 38 rfl rfl rfl rfl (Nat.le_of_ble_eq_true rfl) ⟨Nat.le_of_ble_eq_true rfl, Nat.le_of_ble_eq_true rfl⟩ dX1_findBest_89 (fun v ty' w' hp hk' => ?_)
              obtain ⟨y5691, hC, rfl, rfl⟩ := hp
              replace hF := FE.lt hF (fe_s hC)
              show GW κ 5 0 0 (wX q d I5688 A5688) 92 [(4, .int x5435), (3, .int x5436), (0, .ref (q 43)), (1, .int z1), (2, .int z2)] [.int y5691]
              refine g_istore_n (lv' := [(3, .int y5691), (4, .int x5435), (0, .ref (q 43)), (1, .int z1), (2, .int z2)]) hk dX1_findBest_92 (by decide) rfl ?_
              refine g_aload_n hk dX1_findBest_93 rfl ?_
              refine g_iload hk dX1_findBest_94 rfl ?_
              refine pX_i35 hk hin1 (List.mem_cons_of_mem _ (List.mem_append_left _ (List.mem_of_getElem? (i := 0) rfl))) dX1_findBest_96 ?_
              refine g_aload_n hk dX1_findBest_99 rfl ?_
              refine g_iload_n hk dX1_findBest_100 rfl ?_
              refine pX_i36 hk hin1 (List.mem_cons_of_mem _ (List.mem_append_left _ (List.mem_of_getElem? (i := 1) rfl))) dX1_findBest_101 ?_
              obtain ⟨y5692, ey5692⟩ : ∃ y : Int32, y = x5435 + Int32.ofInt 1 := ⟨_, rfl⟩
              replace hF := FE.lt hF ey5692
              have hy5692 : y5692.toInt = x5435.toInt + 1 := i32_add ey5692 rfl (by decide) (by omega) (by omega)
              refine g_iinc (v := y5692) (lv' := [(4, .int y5692), (3, .int y5691), (0, .ref (q 43)), (1, .int z1), (2, .int z2)]) hk 1 dX1_findBest_104 rfl ey5692.symm (by decide) rfl ?_
              refine g_goto (tgt := 27) hk dX1_findBest_107 (by decide) ?_
              exact g_lv (List.forall_mem_cons.mpr ⟨List.mem_of_getElem? (i := 0) rfl, (List.forall_mem_cons.mpr ⟨List.mem_of_getElem? (i := 1) rfl, (List.forall_mem_cons.mpr ⟨List.mem_of_getElem? (i := 2) rfl, (List.forall_mem_cons.mpr ⟨List.mem_of_getElem? (i := 3) rfl, (List.forall_mem_cons.mpr ⟨List.mem_of_getElem? (i := 4) rfl, (fun _ h => absurd h List.not_mem_nil)⟩)⟩)⟩)⟩)⟩) (ih5660 y5692 y5691 (upd (upd I5688 35 x5435) 36 y5691) A5688 (show Md [33, 34, 35, 36] I5434 (upd (upd I5688 35 x5435) 36 y5691) from Md.tr hI5440 (show Md [33, 34, 35, 36] I5440 (upd (upd I5688 35 x5435) 36 y5691) from (Md.up (Md.up (Md.tr (Md.tr Md.rf hI5684 rfl) hI5688 rfl) rfl) rfl)) rfl) (show Md [22, 23] A5434 A5688 from Md.tr hA5440 (show Md [22, 23] A5440 A5688 from (Md.tr (Md.tr Md.rf hA5684 rfl) hA5688 rfl)) rfl) ⟨(IvX_f0 (I := I5688) (A := A5688) hV5688), (IvX_f18 (I := I5688) (A := A5688) hV5688), (IvX_f30 (I := I5688) (A := A5688) hV5688), (IvX_f31 (I := I5688) (A := A5688) hV5688), (IvX_a4 (I := I5688) (A := A5688) hV5688), (IvX_a9 (I := I5688) (A := A5688) hV5688), trivial⟩ (by omega) (by omega) (by omega) (by omega) hF)
        · skip
          replace hF := FE.neg hF (fe_ne2 hC (by decide))
          replace hF := FE.lt hF (fe_1 hC)
          show GW κ 5 0 0 (wX q d I5440 A5440) 53 [(4, .int x5435), (3, .int x5436), (0, .ref (q 43)), (1, .int z1), (2, .int z2)] [.int y5670, .int x5435, .ref (q 13)]
          refine g_callV (n := 2) hk (k207_X6_hasWindow l D zt q d I5440 A5440 x5435 y5670 hV5440) (SP.same _) (fun _ h => h) (gi_V (List.mem_cons_of_mem _ (List.mem_append_left _ (List.mem_of_getElem? (i := 15) rfl))) (List.mem_cons_of_mem _ (List.mem_append_left _ (List.mem_of_getElem? (i := 16) rfl))) (List.mem_cons_of_mem _ (List.mem_append_left _ (List.mem_of_getElem? (i := 17) rfl))) (List.mem_cons_of_mem _ (List.mem_append_left _ (List.mem_of_getElem? (i := 18) rfl))) (gi_sub (fun w h => (List.mem_cons_of_mem _ (List.mem_append_right _ (List.mem_append_right _ (List.mem_append_right _ (List.mem_append_right _ (List.mem_append_right _ (List.mem_append_right _ (List.mem_append_left _ h))))))))) zg_k207_X6_hasWindow)) rfl rfl rfl (by decide +kernel) ⟨Nat.le_of_ble_eq_true rfl, Nat.le_of_ble_eq_true rfl⟩ 13 rfl rfl rfl rfl (Nat.le_of_ble_eq_true rfl) ⟨Nat.le_of_ble_eq_true rfl, Nat.le_of_ble_eq_true rfl⟩ dX1_findBest_53 (fun v ty' w' hp hk' => ?_)
          rcases hp with ⟨hC, rfl, rfl⟩ | ⟨c5694, c5695, c5696, c5697, c5698, c5699, hC, rfl, rfl⟩
          · skip
            replace hF := FE.pos hF hC
            show GW κ 5 0 0 (wX q d I5440 A5440) 56 [(4, .int x5435), (3, .int x5436), (0, .ref (q 43)), (1, .int z1), (2, .int z2)] [.int 0]
            refine g_if_eq (tgt := 104) (a := 0) hk dX1_findBest_56 (by decide) rfl (fun _ => ?_) (fun z9 => absurd (show (0 : Int) = (0 : Int) from by decide) z9)
            obtain ⟨y5701, ey5701⟩ : ∃ y : Int32, y = x5435 + Int32.ofInt 1 := ⟨_, rfl⟩
            replace hF := FE.lt hF ey5701
            have hy5701 : y5701.toInt = x5435.toInt + 1 := i32_add ey5701 rfl (by decide) (by omega) (by omega)
            refine g_iinc (v := y5701) (lv' := [(4, .int y5701), (3, .int x5436), (0, .ref (q 43)), (1, .int z1), (2, .int z2)]) hk 0 dX1_findBest_104 rfl ey5701.symm (by decide) rfl ?_
            refine g_goto (tgt := 27) hk dX1_findBest_107 (by decide) ?_
            exact g_lv (List.forall_mem_cons.mpr ⟨List.mem_of_getElem? (i := 0) rfl, (List.forall_mem_cons.mpr ⟨List.mem_of_getElem? (i := 1) rfl, (List.forall_mem_cons.mpr ⟨List.mem_of_getElem? (i := 2) rfl, (List.forall_mem_cons.mpr ⟨List.mem_of_getElem? (i := 3) rfl, (List.forall_mem_cons.mpr ⟨List.mem_of_getElem? (i := 4) rfl, (fun _ h => absurd h List.not_mem_nil)⟩)⟩)⟩)⟩)⟩) (ih5660 y5701 x5436 I5440 A5440 (show Md [33, 34, 35, 36] I5434 I5440 from Md.tr hI5440 (show Md [33, 34, 35, 36] I5440 I5440 from Md.rf) rfl) (show Md [22, 23] A5434 A5440 from Md.tr hA5440 (show Md [22, 23] A5440 A5440 from Md.rf) rfl) hV5440 (by omega) (by omega) (by omega) (by omega) hF)
          · skip
            replace hF := FE.neg hF (fe_ne hC (by decide))
            show GW κ 5 0 0 (wX q d I5440 A5440) 56 [(4, .int x5435), (3, .int x5436), (0, .ref (q 43)), (1, .int z1), (2, .int z2)] [.int 1]
            refine g_if_eq (tgt := 104) (a := 1) hk dX1_findBest_56 (by decide) rfl (fun z9 => absurd z9 (show ¬ ((1 : Int) = (0 : Int)) from by decide)) (fun _ => ?_)
            refine g_aload_n hk dX1_findBest_59 rfl ?_
            refine gX_r43_0 hk hin1 (List.mem_cons_of_mem _ (List.mem_append_left _ (List.mem_of_getElem? (i := 3) rfl))) dX1_findBest_60 ?_
            refine g_iload hk dX1_findBest_63 rfl ?_
            refine g_callV (n := 1) hk (k226_X0_laySecondWindow l D zt q d I5440 A5440 x5435 hV5440) (SP.same _) (fun _ h => h) (gi_V (List.mem_cons_of_mem _ (List.mem_append_left _ (List.mem_of_getElem? (i := 19) rfl))) (List.mem_cons_of_mem _ (List.mem_append_left _ (List.mem_of_getElem? (i := 20) rfl))) (List.mem_cons_of_mem _ (List.mem_append_left _ (List.mem_of_getElem? (i := 21) rfl))) (List.mem_cons_of_mem _ (List.mem_append_left _ (List.mem_of_getElem? (i := 7) rfl))) (gi_sub (fun w h => (List.mem_cons_of_mem _ (List.mem_append_right _ (List.mem_append_right _ (List.mem_append_right _ (List.mem_append_right _ (List.mem_append_right _ (List.mem_append_right _ (List.mem_append_right _ (List.mem_append_left _ h)))))))))) zg_k226_X0_laySecondWindow)) rfl rfl rfl (by decide +kernel) ⟨Nat.le_of_ble_eq_true rfl, Nat.le_of_ble_eq_true rfl⟩ 37 rfl rfl rfl rfl (Nat.le_of_ble_eq_true rfl) ⟨Nat.le_of_ble_eq_true rfl, Nat.le_of_ble_eq_true rfl⟩ dX1_findBest_65 (fun v ty' w' hp hk' => ?_)
            obtain ⟨I5703, A5703, hI5703, hA5703, hV5703, hC, rfl, rfl⟩ := hp
            replace hF := FE.bdX hF hC
            show GW κ 5 0 0 (wX q d I5703 A5703) 68 [(4, .int x5435), (3, .int x5436), (0, .ref (q 43)), (1, .int z1), (2, .int z2)] []
            refine g_aload_n hk dX1_findBest_68 rfl ?_
            refine gX_r43_0 hk hin1 (List.mem_cons_of_mem _ (List.mem_append_left _ (List.mem_of_getElem? (i := 3) rfl))) dX1_findBest_69 ?_
            refine gX_r37_3 hk hin0 (List.mem_cons_of_mem _ (List.mem_append_left _ (List.mem_of_getElem? (i := 22) rfl))) dX1_findBest_72 ?_
            refine g_iload_n hk dX1_findBest_75 rfl ?_
            refine g_callV (n := 1) hk (k264_X2_isLess l D zt q d I5703 A5703 x5436 hV5703) (SP.same _) (fun _ h => h) (gi_V (List.mem_cons_of_mem _ (List.mem_append_left _ (List.mem_of_getElem? (i := 23) rfl))) (List.mem_cons_of_mem _ (List.mem_append_left _ (List.mem_of_getElem? (i := 24) rfl))) (List.mem_cons_of_mem _ (List.mem_append_left _ (List.mem_of_getElem? (i := 25) rfl))) (List.mem_cons_of_mem _ (List.mem_append_left _ (List.mem_of_getElem? (i := 26) rfl))) (gi_sub (fun w h => (List.mem_cons_of_mem _ (List.mem_append_right _ (List.mem_append_right _ (List.mem_append_right _ (List.mem_append_right _ (List.mem_append_right _ (List.mem_append_right _ (List.mem_append_right _ (List.mem_append_right _ (List.mem_append_left _ h))))))))))) zg_k264_X2_isLess)) rfl rfl rfl (by decide +kernel) ⟨Nat.le_of_ble_eq_true rfl, Nat.le_of_ble_eq_true rfl⟩ 38 rfl rfl rfl rfl (Nat.le_of_ble_eq_true rfl) ⟨Nat.le_of_ble_eq_true rfl, Nat.le_of_ble_eq_true rfl⟩ dX1_findBest_76 (fun v ty' w' hp hk' => ?_)
            obtain ⟨I5707, A5707, hI5707, hA5707, hV5707, y5704, c5705, c5706, hC, rfl, rfl⟩ := hp
            replace hF := FE.bdX hF hC
            show GW κ 5 0 0 (wX q d I5707 A5707) 79 [(4, .int x5435), (3, .int x5436), (0, .ref (q 43)), (1, .int z1), (2, .int z2)] [.int y5704]
            refine g_if_eq (tgt := 104) (a := y5704.toInt) hk dX1_findBest_79 (by decide) rfl (fun c5708 => ?_) (fun c5708 => ?_)
            · skip
              replace hF := FE.pos hF c5708
              obtain ⟨y5709, ey5709⟩ : ∃ y : Int32, y = x5435 + Int32.ofInt 1 := ⟨_, rfl⟩
              replace hF := FE.lt hF ey5709
              have hy5709 : y5709.toInt = x5435.toInt + 1 := i32_add ey5709 rfl (by decide) (by omega) (by omega)
              refine g_iinc (v := y5709) (lv' := [(4, .int y5709), (3, .int x5436), (0, .ref (q 43)), (1, .int z1), (2, .int z2)]) hk 0 dX1_findBest_104 rfl ey5709.symm (by decide) rfl ?_
              refine g_goto (tgt := 27) hk dX1_findBest_107 (by decide) ?_
              exact g_lv (List.forall_mem_cons.mpr ⟨List.mem_of_getElem? (i := 0) rfl, (List.forall_mem_cons.mpr ⟨List.mem_of_getElem? (i := 1) rfl, (List.forall_mem_cons.mpr ⟨List.mem_of_getElem? (i := 2) rfl, (List.forall_mem_cons.mpr ⟨List.mem_of_getElem? (i := 3) rfl, (List.forall_mem_cons.mpr ⟨List.mem_of_getElem? (i := 4) rfl, (fun _ h => absurd h List.not_mem_nil)⟩)⟩)⟩)⟩)⟩) (ih5660 y5709 x5436 I5707 A5707 (show Md [33, 34, 35, 36] I5434 I5707 from Md.tr hI5440 (show Md [33, 34, 35, 36] I5440 I5707 from (Md.tr (Md.tr Md.rf hI5703 rfl) hI5707 rfl)) rfl) (show Md [22, 23] A5434 A5707 from Md.tr hA5440 (show Md [22, 23] A5440 A5707 from (Md.tr (Md.tr Md.rf hA5703 rfl) hA5707 rfl)) rfl) hV5707 (by omega) (by omega) (by omega) (by omega) hF)
            · skip
              replace hF := FE.neg hF c5708
              refine g_aload_n hk dX1_findBest_82 rfl ?_
              refine gX_r43_0 hk hin1 (List.mem_cons_of_mem _ (List.mem_append_left _ (List.mem_of_getElem? (i := 3) rfl))) dX1_findBest_83 ?_
              refine gX_r37_3 hk hin0 (List.mem_cons_of_mem _ (List.mem_append_left _ (List.mem_of_getElem? (i := 22) rfl))) dX1_findBest_86 ?_
              refine g_callV (n := 0) hk (k237_X2_laidDistance l D zt q d I5707 A5707  hV5707) (SP.same _) (fun _ h => h) (gi_V (List.mem_cons_of_mem _ (List.mem_append_left _ (List.mem_of_getElem? (i := 27) rfl))) (List.mem_cons_of_mem _ (List.mem_append_left _ (List.mem_of_getElem? (i := 28) rfl))) (List.mem_cons_of_mem _ (List.mem_append_left _ (List.mem_of_getElem? (i := 29) rfl))) (List.mem_cons_of_mem _ (List.mem_append_left _ (List.mem_of_getElem? (i := 26) rfl))) (gi_sub (fun w h => (List.mem_cons_of_mem _ (List.mem_append_right _ (List.mem_append_right _ (List.mem_append_right _ (List.mem_append_right _ (List.mem_append_right _ (List.mem_append_right _ (List.mem_append_right _ (List.mem_append_right _ (List.mem_append_right _ (List.mem_append_left _ h)))))))))))) zg_k237_X2_laidDistance)) rfl rfl rfl (by decide +kernel) ⟨Nat.le_of_ble_eq_true rfl, Nat.le_of_ble_eq_true rfl⟩ 38 rfl rfl rfl rfl (Nat.le_of_ble_eq_true rfl) ⟨Nat.le_of_ble_eq_true rfl, Nat.le_of_ble_eq_true rfl⟩ dX1_findBest_89 (fun v ty' w' hp hk' => ?_)
              obtain ⟨y5710, hC, rfl, rfl⟩ := hp
              replace hF := FE.lt hF (fe_s hC)
              show GW κ 5 0 0 (wX q d I5707 A5707) 92 [(4, .int x5435), (3, .int x5436), (0, .ref (q 43)), (1, .int z1), (2, .int z2)] [.int y5710]
              refine g_istore_n (lv' := [(3, .int y5710), (4, .int x5435), (0, .ref (q 43)), (1, .int z1), (2, .int z2)]) hk dX1_findBest_92 (by decide) rfl ?_
              refine g_aload_n hk dX1_findBest_93 rfl ?_
              refine g_iload hk dX1_findBest_94 rfl ?_
              refine pX_i35 hk hin1 (List.mem_cons_of_mem _ (List.mem_append_left _ (List.mem_of_getElem? (i := 0) rfl))) dX1_findBest_96 ?_
              refine g_aload_n hk dX1_findBest_99 rfl ?_
              refine g_iload_n hk dX1_findBest_100 rfl ?_
              refine pX_i36 hk hin1 (List.mem_cons_of_mem _ (List.mem_append_left _ (List.mem_of_getElem? (i := 1) rfl))) dX1_findBest_101 ?_
              obtain ⟨y5711, ey5711⟩ : ∃ y : Int32, y = x5435 + Int32.ofInt 1 := ⟨_, rfl⟩
              replace hF := FE.lt hF ey5711
              have hy5711 : y5711.toInt = x5435.toInt + 1 := i32_add ey5711 rfl (by decide) (by omega) (by omega)
              refine g_iinc (v := y5711) (lv' := [(4, .int y5711), (3, .int y5710), (0, .ref (q 43)), (1, .int z1), (2, .int z2)]) hk 1 dX1_findBest_104 rfl ey5711.symm (by decide) rfl ?_
              refine g_goto (tgt := 27) hk dX1_findBest_107 (by decide) ?_
              exact g_lv (List.forall_mem_cons.mpr ⟨List.mem_of_getElem? (i := 0) rfl, (List.forall_mem_cons.mpr ⟨List.mem_of_getElem? (i := 1) rfl, (List.forall_mem_cons.mpr ⟨List.mem_of_getElem? (i := 2) rfl, (List.forall_mem_cons.mpr ⟨List.mem_of_getElem? (i := 3) rfl, (List.forall_mem_cons.mpr ⟨List.mem_of_getElem? (i := 4) rfl, (fun _ h => absurd h List.not_mem_nil)⟩)⟩)⟩)⟩)⟩) (ih5660 y5711 y5710 (upd (upd I5707 35 x5435) 36 y5710) A5707 (show Md [33, 34, 35, 36] I5434 (upd (upd I5707 35 x5435) 36 y5710) from Md.tr hI5440 (show Md [33, 34, 35, 36] I5440 (upd (upd I5707 35 x5435) 36 y5710) from (Md.up (Md.up (Md.tr (Md.tr Md.rf hI5703 rfl) hI5707 rfl) rfl) rfl)) rfl) (show Md [22, 23] A5434 A5707 from Md.tr hA5440 (show Md [22, 23] A5440 A5707 from (Md.tr (Md.tr Md.rf hA5703 rfl) hA5707 rfl)) rfl) ⟨(IvX_f0 (I := I5707) (A := A5707) hV5707), (IvX_f18 (I := I5707) (A := A5707) hV5707), (IvX_f30 (I := I5707) (A := A5707) hV5707), (IvX_f31 (I := I5707) (A := A5707) hV5707), (IvX_a4 (I := I5707) (A := A5707) hV5707), (IvX_a9 (I := I5707) (A := A5707) hV5707), trivial⟩ (by omega) (by omega) (by omega) (by omega) hF)
  have k5713 : (0 : Int32).toInt = 0 := rfl
  have k5714 : (2147483647 : Int32).toInt = 2147483647 := rfl
  have n5712a : 161 - 0 < (FU : Int) := by have := FU_eq; omega
  have n5712b : 0 < FU := by have := FU_eq; omega
  exact lp5656 FU 0 2147483647 I5434 A5434 Md.rf Md.rf hV5434 (by omega) (by omega) n5712a n5712b hF
noncomputable def fX11_best (I : Nat → Int32) (A : Nat → Nat → Int32) (z1 : Int32) (z2 : Int32) : Int32 × (Nat → Int32) × (Nat → Nat → Int32) := if z2.toInt < 0 then ((-1), I, A) else if 1 < z2.toInt then ((-1), I, A) else if fX4_has_2 I A z1 = 0 then ((-1), I, A) else f_lt (fX7_valueOf_2 I A 0) fun y5432 => f_bdX (fX1_findBest I A z1 y5432) fun _ I5716 A5716 => if z2.toInt ≠ 0 then ((I5716 36), I5716, A5716) else ((I5716 35), I5716, A5716)
def wo_k262_X11_best : List Cond := [Cond.fieldLink RX11 35 "WarpDesk" "queries" "LWarpDesk$Queries;", Cond.methodLink RX11 251 yX4_has, Cond.instanceMethod yX4_has, Cond.selects RX4 yX4_has yX4_has, Cond.initialized RX4, Cond.fieldLink RX11 74 "WarpDesk" "finder" "LWarpDesk$Finder;", Cond.fieldLink RX11 42 "WarpDesk" "settings" "LWarpDesk$Settings;", Cond.methodLink RX11 154 yX7_valueOf, Cond.instanceMethod yX7_valueOf, Cond.selects RX7 yX7_valueOf yX7_valueOf, Cond.initialized RX7, Cond.methodLink RX11 269 yX1_findBest, Cond.instanceMethod yX1_findBest, Cond.selects RX1 yX1_findBest yX1_findBest, Cond.initialized RX1, Cond.fieldLink RX11 275 "WarpDesk$Finder" "bestDistance" "I", Cond.fieldLink RX11 272 "WarpDesk$Finder" "bestWindow" "I"]
def wz_k262_X11_best : List Cond := .code yX11_best cX11_best 3 (some .int) :: (wo_k262_X11_best ++ (wsX10 ++ (wsX110 ++ (wz_k155_X4_has ++ (wz_k174_X7_valueOf ++ (wz_k263_X1_findBest ++ ([] : List Cond)))))))
theorem zg_k262_X11_best : ∀ w ∈ wz_k262_X11_best, goodWord w = true := zg_cons rfl (zg_app (by decide +kernel) (zg_app zgU_wsX10 (zg_app zgU_wsX110 (zg_app zg_k155_X4_has (zg_app zg_k174_X7_valueOf (zg_app zg_k263_X1_findBest zg_nil))))))
theorem zi_k262_X11_best : ∀ w ∈ wz_k262_X11_best, w ∈ lw_tbl := zi_cons zw_1116 (zi_app (zi_cons zw_490 (zi_cons zw_1086 (zi_cons zw_747 (zi_cons zw_748 (zi_cons zw_108 (zi_cons zw_495 (zi_cons zw_491 (zi_cons zw_863 (zi_cons zw_786 (zi_cons zw_787 (zi_cons zw_107 (zi_cons zw_1117 (zi_cons zw_1118 (zi_cons zw_1119 (zi_cons zw_113 (zi_cons zw_410 (zi_cons zw_408 zi_nil))))))))))))))))) (zi_app inX1 (zi_app inX11 (zi_app zi_k155_X4_has (zi_app zi_k174_X7_valueOf (zi_app zi_k263_X1_findBest zi_nil))))))
set_option maxHeartbeats 4000000 in
set_option maxRecDepth 100000 in
theorem k262_X11_best (l : Launch) (D : va_G) (zt : Nat × Nat × Nat × (Nat → Nat) × (Nat → Nat)) (q : Nat → Nat) (d : Nat → ClassId) (I : Nat → Int32) (A : Nat → Nat → Int32) (z1 : Int32) (z2 : Int32) (hIv : IvX I A) : GM l D zt (tyX d) yX11_best wz_k262_X11_best ({ frames := 6, cells := 0, slots := 0, locals := 133 } : Room) [.ref (q 0), .int z1, .int z2] (wX q d I A) (fun v _ w' => ∃ (I' : Nat → Int32) (A' : Nat → Nat → Int32), Md [28, 30, 31, 32, 33, 34, 35, 36] I I' ∧ Md [21, 22, 23] A A' ∧ IvX I' A' ∧ ∃ y0 : Int32, FE (fX11_best I A z1 z2) (y0, I', A') ∧ v = some (.int y0) ∧ w' = wX q d I' A') 0 0 := by
  refine GM.of (cc := cX11_best) (maxL := 3) (ret := (some .int)) (own := RX11) (lv := [(0, .ref (q 0)), (1, .int z1), (2, .int z2)]) (by decide) rfl rfl (Nat.le_of_ble_eq_true rfl) rfl (fun κ sz hk hR hN => ?_)
  have hin1 : ∀ w ∈ u_ws RX1 TX1 11, w ∈ wz_k262_X11_best := fun w h => (List.mem_cons_of_mem _ (List.mem_append_right _ (List.mem_append_left _ h)))
  have hin11 : ∀ w ∈ u_ws RX11 TX11 10, w ∈ wz_k262_X11_best := fun w h => (List.mem_cons_of_mem _ (List.mem_append_right _ (List.mem_append_right _ (List.mem_append_left _ h))))
  have hF : FE (fX11_best I A z1 z2) (fX11_best I A z1 z2) := FE.rf
  refine g_iload_n hk dX11_best_0 rfl ?_
  have b5422l := Int32.le_toInt z2
  have b5422h := Int32.toInt_lt z2
  refine g_if_lt (tgt := 20) (a := z2.toInt) hk dX11_best_1 (by decide) rfl (fun c5423 => ?_) (fun c5423 => ?_)
  · skip
    replace hF := FE.pos hF c5423
    refine g_iconst (v := (-1)) hk dX11_best_20 (by decide) ?_
    exact g_iret hk hR rfl ⟨I, A, (show Md [28, 30, 31, 32, 33, 34, 35, 36] I I from Md.rf), (show Md [21, 22, 23] A A from Md.rf), hIv, (-1), hF, rfl, rfl⟩ dX11_best_21
  · skip
    replace hF := FE.neg hF c5423
    refine g_iload_n hk dX11_best_4 rfl ?_
    refine g_iconst (v := 1) hk dX11_best_5 (by decide) ?_
    refine g_icmp_gt (tgt := 20) (a := z2.toInt) (b := 1) hk dX11_best_6 (by decide) rfl rfl (fun c5424 => ?_) (fun c5424 => ?_)
    · skip
      replace hF := FE.pos hF c5424
      refine g_iconst (v := (-1)) hk dX11_best_20 (by decide) ?_
      exact g_iret hk hR rfl ⟨I, A, (show Md [28, 30, 31, 32, 33, 34, 35, 36] I I from Md.rf), (show Md [21, 22, 23] A A from Md.rf), hIv, (-1), hF, rfl, rfl⟩ dX11_best_21
    · skip
      replace hF := FE.neg hF c5424
      refine g_aload_n hk dX11_best_9 rfl ?_
      refine gX_r0_3 hk hin11 (List.mem_cons_of_mem _ (List.mem_append_left _ (List.mem_of_getElem? (i := 0) rfl))) dX11_best_10 ?_
      refine g_iload_n hk dX11_best_13 rfl ?_
      refine g_callV (n := 1) hk (k168_X4_has l D zt q d I A z1 hIv) (SP.same _) (fun _ h => h) (gi_V (List.mem_cons_of_mem _ (List.mem_append_left _ (List.mem_of_getElem? (i := 1) rfl))) (List.mem_cons_of_mem _ (List.mem_append_left _ (List.mem_of_getElem? (i := 2) rfl))) (List.mem_cons_of_mem _ (List.mem_append_left _ (List.mem_of_getElem? (i := 3) rfl))) (List.mem_cons_of_mem _ (List.mem_append_left _ (List.mem_of_getElem? (i := 4) rfl))) (gi_sub (fun w h => (List.mem_cons_of_mem _ (List.mem_append_right _ (List.mem_append_right _ (List.mem_append_right _ (List.mem_append_left _ h)))))) zg_k155_X4_has)) rfl rfl rfl (by decide +kernel) ⟨Nat.le_of_ble_eq_true rfl, Nat.le_of_ble_eq_true rfl⟩ 15 rfl rfl rfl rfl (Nat.le_of_ble_eq_true rfl) ⟨Nat.le_of_ble_eq_true rfl, Nat.le_of_ble_eq_true rfl⟩ dX11_best_14 (fun v ty' w' hp hk' => ?_)
      rcases hp with ⟨hC, rfl, rfl⟩ | ⟨c5426, c5427, c5428, c5429, hC, rfl, rfl⟩
      · skip
        replace hF := FE.pos hF hC
        show GW κ 3 0 0 (wX q d I A) 17 [(0, .ref (q 0)), (1, .int z1), (2, .int z2)] [.int 0]
        refine g_if_ne (tgt := 22) (a := 0) hk dX11_best_17 (by decide) rfl (fun z9 => absurd z9 (show ¬ ((0 : Int) ≠ (0 : Int)) from by decide)) (fun _ => ?_)
        refine g_iconst (v := (-1)) hk dX11_best_20 (by decide) ?_
        exact g_iret hk hR rfl ⟨I, A, (show Md [28, 30, 31, 32, 33, 34, 35, 36] I I from Md.rf), (show Md [21, 22, 23] A A from Md.rf), hIv, (-1), hF, rfl, rfl⟩ dX11_best_21
      · skip
        replace hF := FE.neg hF (fe_ne hC (by decide))
        show GW κ 3 0 0 (wX q d I A) 17 [(0, .ref (q 0)), (1, .int z1), (2, .int z2)] [.int 1]
        refine g_if_ne (tgt := 22) (a := 1) hk dX11_best_17 (by decide) rfl (fun _ => ?_) (fun z9 => absurd (show (1 : Int) ≠ (0 : Int) from by decide) z9)
        refine g_aload_n hk dX11_best_22 rfl ?_
        refine gX_r0_8 hk hin11 (List.mem_cons_of_mem _ (List.mem_append_left _ (List.mem_of_getElem? (i := 5) rfl))) dX11_best_23 ?_
        refine g_iload_n hk dX11_best_26 rfl ?_
        refine g_aload_n hk dX11_best_27 rfl ?_
        refine gX_r0_4 hk hin11 (List.mem_cons_of_mem _ (List.mem_append_left _ (List.mem_of_getElem? (i := 6) rfl))) dX11_best_28 ?_
        refine g_iconst (v := 0) hk dX11_best_31 (by decide) ?_
        have k5431 : (0 : Int32).toInt = 0 := rfl
        refine g_callV (n := 1) hk (k194_X7_valueOf l D zt q d I A 0 hIv) (SP.same _) (fun _ h => h) (gi_V (List.mem_cons_of_mem _ (List.mem_append_left _ (List.mem_of_getElem? (i := 7) rfl))) (List.mem_cons_of_mem _ (List.mem_append_left _ (List.mem_of_getElem? (i := 8) rfl))) (List.mem_cons_of_mem _ (List.mem_append_left _ (List.mem_of_getElem? (i := 9) rfl))) (List.mem_cons_of_mem _ (List.mem_append_left _ (List.mem_of_getElem? (i := 10) rfl))) (gi_sub (fun w h => (List.mem_cons_of_mem _ (List.mem_append_right _ (List.mem_append_right _ (List.mem_append_right _ (List.mem_append_right _ (List.mem_append_left _ h))))))) zg_k174_X7_valueOf)) rfl rfl rfl (by decide +kernel) ⟨Nat.le_of_ble_eq_true rfl, Nat.le_of_ble_eq_true rfl⟩ 18 rfl rfl rfl rfl (Nat.le_of_ble_eq_true rfl) ⟨Nat.le_of_ble_eq_true rfl, Nat.le_of_ble_eq_true rfl⟩ dX11_best_32 (fun v ty' w' hp hk' => ?_)
        obtain ⟨y5432, hC, rfl, rfl⟩ := hp
        replace hF := FE.lt hF (fe_s hC)
        show GW κ 3 0 0 (wX q d I A) 35 [(0, .ref (q 0)), (1, .int z1), (2, .int z2)] [.int y5432, .int z1, .ref (q 43)]
        refine g_callV (n := 2) hk (k263_X1_findBest l D zt q d I A z1 y5432 hIv) (SP.same _) (fun _ h => h) (gi_V (List.mem_cons_of_mem _ (List.mem_append_left _ (List.mem_of_getElem? (i := 11) rfl))) (List.mem_cons_of_mem _ (List.mem_append_left _ (List.mem_of_getElem? (i := 12) rfl))) (List.mem_cons_of_mem _ (List.mem_append_left _ (List.mem_of_getElem? (i := 13) rfl))) (List.mem_cons_of_mem _ (List.mem_append_left _ (List.mem_of_getElem? (i := 14) rfl))) (gi_sub (fun w h => (List.mem_cons_of_mem _ (List.mem_append_right _ (List.mem_append_right _ (List.mem_append_right _ (List.mem_append_right _ (List.mem_append_right _ (List.mem_append_left _ h)))))))) zg_k263_X1_findBest)) rfl rfl rfl (by decide +kernel) ⟨Nat.le_of_ble_eq_true rfl, Nat.le_of_ble_eq_true rfl⟩ 43 rfl rfl rfl rfl (Nat.le_of_ble_eq_true rfl) ⟨Nat.le_of_ble_eq_true rfl, Nat.le_of_ble_eq_true rfl⟩ dX11_best_35 (fun v ty' w' hp hk' => ?_)
        obtain ⟨I5716, A5716, hI5716, hA5716, hV5716, hC, rfl, rfl⟩ := hp
        replace hF := FE.bdX hF hC
        show GW κ 3 0 0 (wX q d I5716 A5716) 38 [(0, .ref (q 0)), (1, .int z1), (2, .int z2)] []
        refine g_iload_n hk dX11_best_38 rfl ?_
        refine g_if_ne (tgt := 52) (a := z2.toInt) hk dX11_best_39 (by decide) rfl (fun c5717 => ?_) (fun c5717 => ?_)
        · skip
          replace hF := FE.pos hF c5717
          refine g_aload_n hk dX11_best_52 rfl ?_
          refine gX_r0_8 hk hin11 (List.mem_cons_of_mem _ (List.mem_append_left _ (List.mem_of_getElem? (i := 5) rfl))) dX11_best_53 ?_
          refine gX_i36 (v := (I5716 36)) hk hin1 (List.mem_cons_of_mem _ (List.mem_append_left _ (List.mem_of_getElem? (i := 15) rfl))) dX11_best_56 rfl ?_
          have b5718l := Int32.le_toInt (I5716 36)
          have b5718h := Int32.toInt_lt (I5716 36)
          exact g_iret hk hR rfl ⟨I5716, A5716, (show Md [28, 30, 31, 32, 33, 34, 35, 36] I I5716 from (Md.tr Md.rf hI5716 rfl)), (show Md [21, 22, 23] A A5716 from (Md.tr Md.rf hA5716 rfl)), hV5716, (I5716 36), hF, rfl, rfl⟩ dX11_best_59
        · skip
          replace hF := FE.neg hF c5717
          refine g_aload_n hk dX11_best_42 rfl ?_
          refine gX_r0_8 hk hin11 (List.mem_cons_of_mem _ (List.mem_append_left _ (List.mem_of_getElem? (i := 5) rfl))) dX11_best_43 ?_
          refine gX_i35 (v := (I5716 35)) hk hin1 (List.mem_cons_of_mem _ (List.mem_append_left _ (List.mem_of_getElem? (i := 16) rfl))) dX11_best_46 rfl ?_
          refine g_goto (tgt := 59) hk dX11_best_49 (by decide) ?_
          have b5719l := Int32.le_toInt (I5716 35)
          have b5719h := Int32.toInt_lt (I5716 35)
          exact g_iret hk hR rfl ⟨I5716, A5716, (show Md [28, 30, 31, 32, 33, 34, 35, 36] I I5716 from (Md.tr Md.rf hI5716 rfl)), (show Md [21, 22, 23] A A5716 from (Md.tr Md.rf hA5716 rfl)), hV5716, (I5716 35), hF, rfl, rfl⟩ dX11_best_59
noncomputable def fX1_addToTally (I : Nat → Int32) (A : Nat → Nat → Int32) (z1 : Int32) : Int32 × (Nat → Int32) × (Nat → Nat → Int32) := f_lt ((A 25 0) + (1 : Int32)) fun y5775 => f_lt ((up3 A 25 0 y5775) 25 6) fun y5776 => f_lt (y5776 + (I 33)) fun y5779 => if z1.toInt ≠ 0 then if z1.toInt < 1 then (0, I, (up3 (up3 A 25 0 y5775) 25 6 y5779)) else if 5 < z1.toInt then (0, I, (up3 (up3 A 25 0 y5775) 25 6 y5779)) else f_lt ((up3 (up3 A 25 0 y5775) 25 6 y5779) 25 (z1.toNatClampNeg)) fun y5784 => f_lt (y5784 + (1 : Int32)) fun y5786 => if z1.toInt ≠ 4 then (0, I, (up3 (up3 (up3 A 25 0 y5775) 25 6 y5779) 25 (z1.toNatClampNeg) y5786)) else f_lt ((up3 (up3 (up3 A 25 0 y5775) 25 6 y5779) 25 (z1.toNatClampNeg) y5786) 25 8) fun y5788 => f_lt ((I 34) + (1 : Int32)) fun y5790 => f_lt (y5788 + y5790) fun y5793 => (0, I, (up3 (up3 (up3 (up3 A 25 0 y5775) 25 6 y5779) 25 (z1.toNatClampNeg) y5786) 25 8 y5793)) else f_lt ((up3 (up3 A 25 0 y5775) 25 6 y5779) 25 7) fun y5794 => f_lt (y5794 + (1 : Int32)) fun y5796 => (0, I, (up3 (up3 (up3 A 25 0 y5775) 25 6 y5779) 25 7 y5796))
def wo_k267_X1_addToTally : List Cond := [Cond.fieldLink RX1 11 "WarpDesk$Finder" "tally" "[I", Cond.fieldLink RX1 28 "WarpDesk$Finder" "bench" "LWarpDesk$Bench;", Cond.fieldLink RX1 78 "WarpDesk$Bench" "fit" "LWarpDesk$Fit;", Cond.fieldLink RX1 94 "WarpDesk$Fit" "cells" "I", Cond.fieldLink RX1 97 "WarpDesk$Fit" "brokenRow" "I"]
def wz_k267_X1_addToTally : List Cond := .code yX1_addToTally cX1_addToTally 2 none :: (wo_k267_X1_addToTally ++ (wsX00 ++ (wsX10 ++ (wsX20 ++ ([] : List Cond)))))
theorem zg_k267_X1_addToTally : ∀ w ∈ wz_k267_X1_addToTally, goodWord w = true := zg_cons rfl (zg_app (by decide +kernel) (zg_app zgU_wsX00 (zg_app zgU_wsX10 (zg_app zgU_wsX20 zg_nil))))
theorem zi_k267_X1_addToTally : ∀ w ∈ wz_k267_X1_addToTally, w ∈ lw_tbl := zi_cons zw_1142 (zi_app (zi_cons zw_405 (zi_cons zw_402 (zi_cons zw_382 (zi_cons zw_346 (zi_cons zw_349 zi_nil))))) (zi_app inX0 (zi_app inX1 (zi_app inX2 zi_nil))))
set_option maxHeartbeats 4000000 in
set_option maxRecDepth 100000 in
theorem k267_X1_addToTally (l : Launch) (D : va_G) (zt : Nat × Nat × Nat × (Nat → Nat) × (Nat → Nat)) (q : Nat → Nat) (d : Nat → ClassId) (I : Nat → Int32) (A : Nat → Nat → Int32) (z1 : Int32) (hIv : IvX I A) : GM l D zt (tyX d) yX1_addToTally wz_k267_X1_addToTally ({ frames := 0, cells := 0, slots := 0, locals := 0 } : Room) [.ref (q 43), .int z1] (wX q d I A) (fun v _ w' => ∃ (I' : Nat → Int32) (A' : Nat → Nat → Int32), Md [] I I' ∧ Md [25] A A' ∧ IvX I' A' ∧ FE (fX1_addToTally I A z1) (0, I', A') ∧ v = none ∧ w' = wX q d I' A') 0 0 := by
  refine GM.of (cc := cX1_addToTally) (maxL := 2) (ret := none) (own := RX1) (lv := [(0, .ref (q 43)), (1, .int z1)]) (by decide) rfl rfl (Nat.le_of_ble_eq_true rfl) rfl (fun κ sz hk hR hN => ?_)
  have hin0 : ∀ w ∈ u_ws RX0 TX0 5, w ∈ wz_k267_X1_addToTally := fun w h => (List.mem_cons_of_mem _ (List.mem_append_right _ (List.mem_append_left _ h)))
  have hin1 : ∀ w ∈ u_ws RX1 TX1 11, w ∈ wz_k267_X1_addToTally := fun w h => (List.mem_cons_of_mem _ (List.mem_append_right _ (List.mem_append_right _ (List.mem_append_left _ h))))
  have hin2 : ∀ w ∈ u_ws RX2 TX2 10, w ∈ wz_k267_X1_addToTally := fun w h => (List.mem_cons_of_mem _ (List.mem_append_right _ (List.mem_append_right _ (List.mem_append_right _ (List.mem_append_left _ h)))))
  have hF : FE (fX1_addToTally I A z1) (fX1_addToTally I A z1) := FE.rf
  refine g_aload_n hk dX1_addToTally_0 rfl ?_
  refine gX_r43_3 hk hin1 (List.mem_cons_of_mem _ (List.mem_append_left _ (List.mem_of_getElem? (i := 0) rfl))) dX1_addToTally_1 ?_
  refine g_iconst (v := 0) hk dX1_addToTally_4 (by decide) ?_
  refine g_dup2 hk dX1_addToTally_5 rfl rfl ?_
  refine lX_25 (v := (A 25 0)) hk (vp_in_iff.mpr ⟨by decide, by decide⟩) rfl dX1_addToTally_6 ?_
  refine g_iconst (v := 1) hk dX1_addToTally_7 (by decide) ?_
  have b5774l := Int32.le_toInt (A 25 0)
  have b5774h := Int32.toInt_lt (A 25 0)
  refine g_iadd hk dX1_addToTally_8 ?_
  refine g_topi (fun y5775 ey5775 => ?_)
  replace hF := FE.lt hF ey5775
  refine sX_25 (j := 0) hk (vp_in_iff.mpr ⟨by decide, by decide⟩) (by decide) dX1_addToTally_9 ?_
  refine g_aload_n hk dX1_addToTally_10 rfl ?_
  refine gX_r43_3 hk hin1 (List.mem_cons_of_mem _ (List.mem_append_left _ (List.mem_of_getElem? (i := 0) rfl))) dX1_addToTally_11 ?_
  refine g_bipush (v := 6) hk dX1_addToTally_14 (by decide) ?_
  refine g_dup2 hk dX1_addToTally_16 rfl rfl ?_
  refine lX_25 hk (vp_in_iff.mpr ⟨by decide, by decide⟩) rfl dX1_addToTally_17 ?_
  refine g_topi (fun y5776 ey5776 => ?_)
  replace hF := FE.lt hF ey5776
  refine g_aload_n hk dX1_addToTally_18 rfl ?_
  refine gX_r43_0 hk hin1 (List.mem_cons_of_mem _ (List.mem_append_left _ (List.mem_of_getElem? (i := 1) rfl))) dX1_addToTally_19 ?_
  refine gX_r37_3 hk hin0 (List.mem_cons_of_mem _ (List.mem_append_left _ (List.mem_of_getElem? (i := 2) rfl))) dX1_addToTally_22 ?_
  refine gX_i33 (v := (I 33)) hk hin2 (List.mem_cons_of_mem _ (List.mem_append_left _ (List.mem_of_getElem? (i := 3) rfl))) dX1_addToTally_25 rfl ?_
  have b5777l := Int32.le_toInt y5776
  have b5777h := Int32.toInt_lt y5776
  have b5778l := Int32.le_toInt (I 33)
  have b5778h := Int32.toInt_lt (I 33)
  refine g_iadd hk dX1_addToTally_28 ?_
  refine g_topi (fun y5779 ey5779 => ?_)
  replace hF := FE.lt hF ey5779
  refine sX_25 (j := 6) hk (vp_in_iff.mpr ⟨by decide, by decide⟩) (by decide) dX1_addToTally_29 ?_
  refine g_iload_n hk dX1_addToTally_30 rfl ?_
  have b5780l := Int32.le_toInt z1
  have b5780h := Int32.toInt_lt z1
  refine g_if_ne (tgt := 48) (a := z1.toInt) hk dX1_addToTally_31 (by decide) rfl (fun c5781 => ?_) (fun c5781 => ?_)
  · skip
    replace hF := FE.pos hF c5781
    refine g_iload_n hk dX1_addToTally_48 rfl ?_
    refine g_iconst (v := 1) hk dX1_addToTally_49 (by decide) ?_
    refine g_icmp_lt (tgt := 68) (a := z1.toInt) (b := 1) hk dX1_addToTally_50 (by decide) rfl rfl (fun c5782 => ?_) (fun c5782 => ?_)
    · skip
      replace hF := FE.pos hF c5782
      refine g_iload_n hk dX1_addToTally_68 rfl ?_
      refine g_iconst (v := 4) hk dX1_addToTally_69 (by decide) ?_
      refine g_icmp_ne (tgt := 95) (a := z1.toInt) (b := 4) hk dX1_addToTally_70 (by decide) rfl rfl (fun _ => ?_) (fun z9 => absurd (show z1.toInt ≠ 4 from by omega) z9)
      exact g_vret hk hR ⟨I, (up3 (up3 A 25 0 y5775) 25 6 y5779), (show Md [] I I from Md.rf), (show Md [25] A (up3 (up3 A 25 0 y5775) 25 6 y5779) from (Md.up3 (Md.up3 Md.rf rfl) rfl)), ⟨(IvX_f0 (I := I) (A := A) hIv), (IvX_f18 (I := I) (A := A) hIv), (IvX_f30 (I := I) (A := A) hIv), (IvX_f31 (I := I) (A := A) hIv), (IvX_a4 (I := I) (A := A) hIv), (IvX_a9 (I := I) (A := A) hIv), trivial⟩, hF, rfl, rfl⟩ dX1_addToTally_95
    · skip
      replace hF := FE.neg hF c5782
      refine g_iload_n hk dX1_addToTally_53 rfl ?_
      refine g_iconst (v := 5) hk dX1_addToTally_54 (by decide) ?_
      refine g_icmp_gt (tgt := 68) (a := z1.toInt) (b := 5) hk dX1_addToTally_55 (by decide) rfl rfl (fun c5783 => ?_) (fun c5783 => ?_)
      · skip
        replace hF := FE.pos hF c5783
        refine g_iload_n hk dX1_addToTally_68 rfl ?_
        refine g_iconst (v := 4) hk dX1_addToTally_69 (by decide) ?_
        refine g_icmp_ne (tgt := 95) (a := z1.toInt) (b := 4) hk dX1_addToTally_70 (by decide) rfl rfl (fun _ => ?_) (fun z9 => absurd (show z1.toInt ≠ 4 from by omega) z9)
        exact g_vret hk hR ⟨I, (up3 (up3 A 25 0 y5775) 25 6 y5779), (show Md [] I I from Md.rf), (show Md [25] A (up3 (up3 A 25 0 y5775) 25 6 y5779) from (Md.up3 (Md.up3 Md.rf rfl) rfl)), ⟨(IvX_f0 (I := I) (A := A) hIv), (IvX_f18 (I := I) (A := A) hIv), (IvX_f30 (I := I) (A := A) hIv), (IvX_f31 (I := I) (A := A) hIv), (IvX_a4 (I := I) (A := A) hIv), (IvX_a9 (I := I) (A := A) hIv), trivial⟩, hF, rfl, rfl⟩ dX1_addToTally_95
      · skip
        replace hF := FE.neg hF c5783
        refine g_aload_n hk dX1_addToTally_58 rfl ?_
        refine gX_r43_3 hk hin1 (List.mem_cons_of_mem _ (List.mem_append_left _ (List.mem_of_getElem? (i := 0) rfl))) dX1_addToTally_59 ?_
        refine g_iload_n hk dX1_addToTally_62 rfl ?_
        refine g_dup2 hk dX1_addToTally_63 rfl rfl ?_
        refine lX_25 hk (vp_in_iff.mpr ⟨by omega, by omega⟩) rfl dX1_addToTally_64 ?_
        refine g_topi (fun y5784 ey5784 => ?_)
        replace hF := FE.lt hF ey5784
        refine g_iconst (v := 1) hk dX1_addToTally_65 (by decide) ?_
        have b5785l := Int32.le_toInt y5784
        have b5785h := Int32.toInt_lt y5784
        refine g_iadd hk dX1_addToTally_66 ?_
        refine g_topi (fun y5786 ey5786 => ?_)
        replace hF := FE.lt hF ey5786
        refine sX_25 (j := z1.toNatClampNeg) hk (vp_in_iff.mpr ⟨by omega, by omega⟩) rfl dX1_addToTally_67 ?_
        refine g_iload_n hk dX1_addToTally_68 rfl ?_
        refine g_iconst (v := 4) hk dX1_addToTally_69 (by decide) ?_
        refine g_icmp_ne (tgt := 95) (a := z1.toInt) (b := 4) hk dX1_addToTally_70 (by decide) rfl rfl (fun c5787 => ?_) (fun c5787 => ?_)
        · skip
          replace hF := FE.pos hF c5787
          exact g_vret hk hR ⟨I, (up3 (up3 (up3 A 25 0 y5775) 25 6 y5779) 25 (z1.toNatClampNeg) y5786), (show Md [] I I from Md.rf), (show Md [25] A (up3 (up3 (up3 A 25 0 y5775) 25 6 y5779) 25 (z1.toNatClampNeg) y5786) from (Md.up3 (Md.up3 (Md.up3 Md.rf rfl) rfl) rfl)), ⟨(IvX_f0 (I := I) (A := A) hIv), (IvX_f18 (I := I) (A := A) hIv), (IvX_f30 (I := I) (A := A) hIv), (IvX_f31 (I := I) (A := A) hIv), (IvX_a4 (I := I) (A := A) hIv), (IvX_a9 (I := I) (A := A) hIv), trivial⟩, hF, rfl, rfl⟩ dX1_addToTally_95
        · skip
          replace hF := FE.neg hF c5787
          refine g_aload_n hk dX1_addToTally_73 rfl ?_
          refine gX_r43_3 hk hin1 (List.mem_cons_of_mem _ (List.mem_append_left _ (List.mem_of_getElem? (i := 0) rfl))) dX1_addToTally_74 ?_
          refine g_bipush (v := 8) hk dX1_addToTally_77 (by decide) ?_
          refine g_dup2 hk dX1_addToTally_79 rfl rfl ?_
          refine lX_25 hk (vp_in_iff.mpr ⟨by decide, by decide⟩) rfl dX1_addToTally_80 ?_
          refine g_topi (fun y5788 ey5788 => ?_)
          replace hF := FE.lt hF ey5788
          refine g_aload_n hk dX1_addToTally_81 rfl ?_
          refine gX_r43_0 hk hin1 (List.mem_cons_of_mem _ (List.mem_append_left _ (List.mem_of_getElem? (i := 1) rfl))) dX1_addToTally_82 ?_
          refine gX_r37_3 hk hin0 (List.mem_cons_of_mem _ (List.mem_append_left _ (List.mem_of_getElem? (i := 2) rfl))) dX1_addToTally_85 ?_
          refine gX_i34 (v := (I 34)) hk hin2 (List.mem_cons_of_mem _ (List.mem_append_left _ (List.mem_of_getElem? (i := 4) rfl))) dX1_addToTally_88 rfl ?_
          refine g_iconst (v := 1) hk dX1_addToTally_91 (by decide) ?_
          have b5789l := Int32.le_toInt (I 34)
          have b5789h := Int32.toInt_lt (I 34)
          refine g_iadd hk dX1_addToTally_92 ?_
          refine g_topi (fun y5790 ey5790 => ?_)
          replace hF := FE.lt hF ey5790
          have b5791l := Int32.le_toInt y5788
          have b5791h := Int32.toInt_lt y5788
          have b5792l := Int32.le_toInt y5790
          have b5792h := Int32.toInt_lt y5790
          refine g_iadd hk dX1_addToTally_93 ?_
          refine g_topi (fun y5793 ey5793 => ?_)
          replace hF := FE.lt hF ey5793
          refine sX_25 (j := 8) hk (vp_in_iff.mpr ⟨by decide, by decide⟩) (by decide) dX1_addToTally_94 ?_
          exact g_vret hk hR ⟨I, (up3 (up3 (up3 (up3 A 25 0 y5775) 25 6 y5779) 25 (z1.toNatClampNeg) y5786) 25 8 y5793), (show Md [] I I from Md.rf), (show Md [25] A (up3 (up3 (up3 (up3 A 25 0 y5775) 25 6 y5779) 25 (z1.toNatClampNeg) y5786) 25 8 y5793) from (Md.up3 (Md.up3 (Md.up3 (Md.up3 Md.rf rfl) rfl) rfl) rfl)), ⟨(IvX_f0 (I := I) (A := A) hIv), (IvX_f18 (I := I) (A := A) hIv), (IvX_f30 (I := I) (A := A) hIv), (IvX_f31 (I := I) (A := A) hIv), (IvX_a4 (I := I) (A := A) hIv), (IvX_a9 (I := I) (A := A) hIv), trivial⟩, hF, rfl, rfl⟩ dX1_addToTally_95
  · skip
    replace hF := FE.neg hF c5781
    refine g_aload_n hk dX1_addToTally_34 rfl ?_
    refine gX_r43_3 hk hin1 (List.mem_cons_of_mem _ (List.mem_append_left _ (List.mem_of_getElem? (i := 0) rfl))) dX1_addToTally_35 ?_
    refine g_bipush (v := 7) hk dX1_addToTally_38 (by decide) ?_
    refine g_dup2 hk dX1_addToTally_40 rfl rfl ?_
    refine lX_25 hk (vp_in_iff.mpr ⟨by decide, by decide⟩) rfl dX1_addToTally_41 ?_
    refine g_topi (fun y5794 ey5794 => ?_)
    replace hF := FE.lt hF ey5794
    refine g_iconst (v := 1) hk dX1_addToTally_42 (by decide) ?_
    have b5795l := Int32.le_toInt y5794
    have b5795h := Int32.toInt_lt y5794
    refine g_iadd hk dX1_addToTally_43 ?_
    refine g_topi (fun y5796 ey5796 => ?_)
    replace hF := FE.lt hF ey5796
    refine sX_25 (j := 7) hk (vp_in_iff.mpr ⟨by decide, by decide⟩) (by decide) dX1_addToTally_44 ?_
    refine g_goto (tgt := 68) hk dX1_addToTally_45 (by decide) ?_
    refine g_iload_n hk dX1_addToTally_68 rfl ?_
    refine g_iconst (v := 4) hk dX1_addToTally_69 (by decide) ?_
    refine g_icmp_ne (tgt := 95) (a := z1.toInt) (b := 4) hk dX1_addToTally_70 (by decide) rfl rfl (fun _ => ?_) (fun z9 => absurd (show z1.toInt ≠ 4 from by omega) z9)
    exact g_vret hk hR ⟨I, (up3 (up3 (up3 A 25 0 y5775) 25 6 y5779) 25 7 y5796), (show Md [] I I from Md.rf), (show Md [25] A (up3 (up3 (up3 A 25 0 y5775) 25 6 y5779) 25 7 y5796) from (Md.up3 (Md.up3 (Md.up3 Md.rf rfl) rfl) rfl)), ⟨(IvX_f0 (I := I) (A := A) hIv), (IvX_f18 (I := I) (A := A) hIv), (IvX_f30 (I := I) (A := A) hIv), (IvX_f31 (I := I) (A := A) hIv), (IvX_a4 (I := I) (A := A) hIv), (IvX_a9 (I := I) (A := A) hIv), trivial⟩, hF, rfl, rfl⟩ dX1_addToTally_95
noncomputable def bX1_runSearch_45 (I : Nat → Int32) (z1 : Int32) : (Int32 → Int32 → (Nat → Int32) → (Nat → Nat → Int32) → (Int32 × (Nat → Int32) × (Nat → Nat → Int32))) → Int32 → Int32 → (Nat → Int32) → (Nat → Nat → Int32) → (Int32 × (Nat → Int32) × (Nat → Nat → Int32)) := fun kk6571 x6348 x6349 I6352 A6352 => if (I 18).toInt ≤ x6348.toInt then (0, I6352, A6352) else if (fX4_lengthOf_2 I6352 A6352 z1).2 = 0 then if fX6_hasWindow I6352 A6352 x6348 0 = 0 then f_lt (x6348 + Int32.ofInt 1) fun y6593 => kk6571 y6593 x6349 I6352 A6352 else f_bdX (fX0_laySecondWindow I6352 A6352 x6348) fun _ I6595 A6595 => f_bdX (fX2_lookAt I6595 A6595 x6349) fun y6596 I6599 A6599 => f_bdX (fX1_addToTally I6599 A6599 y6596) fun _ I6601 A6601 => if y6596.toInt ≠ 0 then f_lt (x6348 + Int32.ofInt 1) fun y6603 => kk6571 y6603 x6349 I6601 A6601 else f_lt (fX2_laidDistance I6601 A6601) fun y6604 => f_lt (x6348 + Int32.ofInt 1) fun y6605 => kk6571 y6605 y6604 I6601 A6601 else f_lt (fX4_lengthOf_2 I6352 A6352 z1).1 fun y6582 => if fX6_hasWindow I6352 A6352 x6348 y6582 = 0 then f_lt (x6348 + Int32.ofInt 1) fun y6614 => kk6571 y6614 x6349 I6352 A6352 else f_bdX (fX0_laySecondWindow I6352 A6352 x6348) fun _ I6616 A6616 => f_bdX (fX2_lookAt I6616 A6616 x6349) fun y6617 I6620 A6620 => f_bdX (fX1_addToTally I6620 A6620 y6617) fun _ I6622 A6622 => if y6617.toInt ≠ 0 then f_lt (x6348 + Int32.ofInt 1) fun y6624 => kk6571 y6624 x6349 I6622 A6622 else f_lt (fX2_laidDistance I6622 A6622) fun y6625 => f_lt (x6348 + Int32.ofInt 1) fun y6626 => kk6571 y6626 y6625 I6622 A6622
noncomputable def bX1_runSearch_2 (z1 : Int32) (I : Nat → Int32) : (Int32 → (Nat → Int32) → (Nat → Nat → Int32) → (Int32 × (Nat → Int32) × (Nat → Nat → Int32))) → Int32 → (Nat → Int32) → (Nat → Nat → Int32) → (Int32 × (Nat → Int32) × (Nat → Nat → Int32)) := fun kk6341 x5729 I5732 A5732 => if 9 ≤ x5729.toInt then f_lt (fX7_valueOf_2 I5732 A5732 0) fun y6345 => f_bdX (fX0_openQuery I5732 A5732 z1 y6345) fun _ I6347 A6347 => itr_iiIA dfX (bX1_runSearch_45 I z1) FU 0 2147483647 I6347 A6347 else f_lt (x5729 + Int32.ofInt 1) fun y6630 => kk6341 y6630 I5732 (up3 A5732 25 (x5729.toNatClampNeg) 0)
noncomputable def fX1_runSearch (I : Nat → Int32) (A : Nat → Nat → Int32) (z1 : Int32) : Int32 × (Nat → Int32) × (Nat → Nat → Int32) := itr_iIA dfX (bX1_runSearch_2 z1 I) FU 0 I A
def wo_k266_X1_runSearch : List Cond := [Cond.fieldLink RX1 11 "WarpDesk$Finder" "tally" "[I", Cond.constant RX1 44 (2147483647), Cond.fieldLink RX1 28 "WarpDesk$Finder" "bench" "LWarpDesk$Bench;", Cond.fieldLink RX1 45 "WarpDesk$Bench" "settings" "LWarpDesk$Settings;", Cond.methodLink RX1 49 yX7_valueOf, Cond.instanceMethod yX7_valueOf, Cond.selects RX7 yX7_valueOf yX7_valueOf, Cond.initialized RX7, Cond.methodLink RX1 55 yX0_openQuery, Cond.instanceMethod yX0_openQuery, Cond.selects RX0 yX0_openQuery yX0_openQuery, Cond.initialized RX0, Cond.fieldLink RX1 38 "WarpDesk$Finder" "series" "LWarpDesk$Series;", Cond.fieldLink RX1 59 "WarpDesk$Series" "size" "I", Cond.fieldLink RX1 43 "WarpDesk$Finder" "queries" "LWarpDesk$Queries;", Cond.methodLink RX1 65 yX4_lengthOf, Cond.instanceMethod yX4_lengthOf, Cond.selects RX4 yX4_lengthOf yX4_lengthOf, Cond.initialized RX4, Cond.methodLink RX1 70 yX6_hasWindow, Cond.instanceMethod yX6_hasWindow, Cond.selects RX6 yX6_hasWindow yX6_hasWindow, Cond.initialized RX6, Cond.methodLink RX1 74 yX0_laySecondWindow, Cond.instanceMethod yX0_laySecondWindow, Cond.selects RX0 yX0_laySecondWindow yX0_laySecondWindow, Cond.fieldLink RX1 78 "WarpDesk$Bench" "fit" "LWarpDesk$Fit;", Cond.methodLink RX1 82 yX2_lookAt, Cond.instanceMethod yX2_lookAt, Cond.selects RX2 yX2_lookAt yX2_lookAt, Cond.initialized RX2, Cond.methodLink RX1 87 yX1_addToTally, Cond.instanceMethod yX1_addToTally, Cond.selects RX1 yX1_addToTally yX1_addToTally, Cond.initialized RX1, Cond.methodLink RX1 90 yX2_laidDistance, Cond.instanceMethod yX2_laidDistance, Cond.selects RX2 yX2_laidDistance yX2_laidDistance]
def wz_k266_X1_runSearch : List Cond := .code yX1_runSearch cX1_runSearch 5 none :: (wo_k266_X1_runSearch ++ (wsX00 ++ (wsX10 ++ (wsX60 ++ (wz_k174_X7_valueOf ++ (wz_k224_X0_openQuery ++ (wz_k165_X4_lengthOf ++ (wz_k207_X6_hasWindow ++ (wz_k226_X0_laySecondWindow ++ (wz_k247_X2_lookAt ++ (wz_k267_X1_addToTally ++ (wz_k237_X2_laidDistance ++ ([] : List Cond)))))))))))))
theorem zg_k266_X1_runSearch : ∀ w ∈ wz_k266_X1_runSearch, goodWord w = true := zg_cons rfl (zg_app (by decide +kernel) (zg_app zgU_wsX00 (zg_app zgU_wsX10 (zg_app zgU_wsX60 (zg_app zg_k174_X7_valueOf (zg_app zg_k224_X0_openQuery (zg_app zg_k165_X4_lengthOf (zg_app zg_k207_X6_hasWindow (zg_app zg_k226_X0_laySecondWindow (zg_app zg_k247_X2_lookAt (zg_app zg_k267_X1_addToTally (zg_app zg_k237_X2_laidDistance zg_nil))))))))))))
theorem zi_k266_X1_runSearch : ∀ w ∈ wz_k266_X1_runSearch, w ∈ lw_tbl := zi_cons zw_1136 (zi_app (zi_cons zw_405 (zi_cons zw_1101 (zi_cons zw_402 (zi_cons zw_379 (zi_cons zw_1137 (zi_cons zw_786 (zi_cons zw_787 (zi_cons zw_107 (zi_cons zw_1121 (zi_cons zw_981 (zi_cons zw_982 (zi_cons zw_111 (zi_cons zw_403 (zi_cons zw_283 (zi_cons zw_404 (zi_cons zw_1102 (zi_cons zw_757 (zi_cons zw_758 (zi_cons zw_108 (zi_cons zw_1122 (zi_cons zw_902 (zi_cons zw_903 (zi_cons zw_109 (zi_cons zw_1123 (zi_cons zw_989 (zi_cons zw_990 (zi_cons zw_382 (zi_cons zw_1138 (zi_cons zw_1046 (zi_cons zw_1047 (zi_cons zw_112 (zi_cons zw_1139 (zi_cons zw_1141 (zi_cons zw_35 (zi_cons zw_113 (zi_cons zw_1128 (zi_cons zw_1014 (zi_cons zw_1015 zi_nil)))))))))))))))))))))))))))))))))))))) (zi_app inX0 (zi_app inX1 (zi_app inX6 (zi_app zi_k174_X7_valueOf (zi_app zi_k224_X0_openQuery (zi_app zi_k165_X4_lengthOf (zi_app zi_k207_X6_hasWindow (zi_app zi_k226_X0_laySecondWindow (zi_app zi_k247_X2_lookAt (zi_app zi_k267_X1_addToTally (zi_app zi_k237_X2_laidDistance zi_nil))))))))))))
set_option maxHeartbeats 4000000 in
set_option maxRecDepth 100000 in
theorem k266_X1_runSearch (l : Launch) (D : va_G) (zt : Nat × Nat × Nat × (Nat → Nat) × (Nat → Nat)) (q : Nat → Nat) (d : Nat → ClassId) (I : Nat → Int32) (A : Nat → Nat → Int32) (z1 : Int32) (hIv : IvX I A) : GM l D zt (tyX d) yX1_runSearch wz_k266_X1_runSearch ({ frames := 5, cells := 0, slots := 0, locals := 109 } : Room) [.ref (q 43), .int z1] (wX q d I A) (fun v _ w' => ∃ (I' : Nat → Int32) (A' : Nat → Nat → Int32), Md [28, 30, 31, 32, 33, 34] I I' ∧ Md [21, 22, 23, 25] A A' ∧ IvX I' A' ∧ FE (fX1_runSearch I A z1) (0, I', A') ∧ v = none ∧ w' = wX q d I' A') 0 0 := by
  refine GM.of (cc := cX1_runSearch) (maxL := 5) (ret := none) (own := RX1) (lv := [(0, .ref (q 43)), (1, .int z1)]) (by decide) rfl rfl (Nat.le_of_ble_eq_true rfl) rfl (fun κ sz hk hR hN => ?_)
  have hin0 : ∀ w ∈ u_ws RX0 TX0 5, w ∈ wz_k266_X1_runSearch := fun w h => (List.mem_cons_of_mem _ (List.mem_append_right _ (List.mem_append_left _ h)))
  have hin1 : ∀ w ∈ u_ws RX1 TX1 11, w ∈ wz_k266_X1_runSearch := fun w h => (List.mem_cons_of_mem _ (List.mem_append_right _ (List.mem_append_right _ (List.mem_append_left _ h))))
  have hin6 : ∀ w ∈ u_ws RX6 TX6 3, w ∈ wz_k266_X1_runSearch := fun w h => (List.mem_cons_of_mem _ (List.mem_append_right _ (List.mem_append_right _ (List.mem_append_right _ (List.mem_append_left _ h)))))
  have hF : FE (fX1_runSearch I A z1) (fX1_runSearch I A z1) := FE.rf
  refine g_iconst (v := 0) hk dX1_runSearch_0 (by decide) ?_
  refine g_istore_n (lv' := [(2, .int 0), (0, .ref (q 43)), (1, .int z1)]) hk dX1_runSearch_1 (by decide) rfl ?_
  have lp6338 : ∀ (n6339 : Nat) (x5729 : Int32) (I5732 : Nat → Int32) (A5732 : Nat → Nat → Int32), (Md [] I I5732) → (Md [25] A A5732) → (IvX I5732 A5732) → (0 ≤ x5729.toInt) → (x5729.toInt ≤ 9) → (10 - x5729.toInt < (n6339 : Int)) → (0 < n6339) → (FE (fX1_runSearch I A z1) (itr_iIA dfX (bX1_runSearch_2 z1 I) n6339 x5729 I5732 A5732)) → GW κ 5 0 0 (wX q d I5732 A5732) 2 [(2, .int x5729), (0, .ref (q 43)), (1, .int z1)] [] := by
    intro n6339
    induction n6339 with
    | zero =>
      intro x5729 I5732 A5732 hI5732 hA5732 hV5732 h6336 h6337 m6340 m6340z hF
      exact absurd m6340z (Nat.lt_irrefl 0)
    | succ n6339 ih6342 =>
      intro x5729 I5732 A5732 hI5732 hA5732 hV5732 h6336 h6337 m6340 m6340z hF
      replace hF := FE.itr_iIA hF
      refine g_iload_n hk dX1_runSearch_2 rfl ?_
      refine g_bipush (v := 9) hk dX1_runSearch_3 (by decide) ?_
      refine g_icmp_ge (tgt := 21) (a := x5729.toInt) (b := 9) hk dX1_runSearch_5 (by decide) rfl rfl (fun c6343 => ?_) (fun c6343 => ?_)
      · skip
        replace hF := FE.pos hF c6343
        refine g_ldc (v := 2147483647) hk (List.mem_cons_of_mem _ (List.mem_append_left _ (List.mem_of_getElem? (i := 1) rfl))) dX1_runSearch_21 ?_
        refine g_istore_n (lv' := [(2, .int 2147483647), (0, .ref (q 43)), (1, .int z1)]) hk dX1_runSearch_23 (by decide) rfl ?_
        refine g_aload_n hk dX1_runSearch_24 rfl ?_
        refine gX_r43_0 hk hin1 (List.mem_cons_of_mem _ (List.mem_append_left _ (List.mem_of_getElem? (i := 2) rfl))) dX1_runSearch_25 ?_
        refine g_iload_n hk dX1_runSearch_28 rfl ?_
        refine g_aload_n hk dX1_runSearch_29 rfl ?_
        refine gX_r43_0 hk hin1 (List.mem_cons_of_mem _ (List.mem_append_left _ (List.mem_of_getElem? (i := 2) rfl))) dX1_runSearch_30 ?_
        refine gX_r37_2 hk hin0 (List.mem_cons_of_mem _ (List.mem_append_left _ (List.mem_of_getElem? (i := 3) rfl))) dX1_runSearch_33 ?_
        refine g_iconst (v := 0) hk dX1_runSearch_36 (by decide) ?_
        have k6344 : (0 : Int32).toInt = 0 := rfl
        refine g_callV (n := 1) hk (k194_X7_valueOf l D zt q d I5732 A5732 0 hV5732) (SP.same _) (fun _ h => h) (gi_V (List.mem_cons_of_mem _ (List.mem_append_left _ (List.mem_of_getElem? (i := 4) rfl))) (List.mem_cons_of_mem _ (List.mem_append_left _ (List.mem_of_getElem? (i := 5) rfl))) (List.mem_cons_of_mem _ (List.mem_append_left _ (List.mem_of_getElem? (i := 6) rfl))) (List.mem_cons_of_mem _ (List.mem_append_left _ (List.mem_of_getElem? (i := 7) rfl))) (gi_sub (fun w h => (List.mem_cons_of_mem _ (List.mem_append_right _ (List.mem_append_right _ (List.mem_append_right _ (List.mem_append_right _ (List.mem_append_left _ h))))))) zg_k174_X7_valueOf)) rfl rfl rfl (by decide +kernel) ⟨Nat.le_of_ble_eq_true rfl, Nat.le_of_ble_eq_true rfl⟩ 18 rfl rfl rfl rfl (Nat.le_of_ble_eq_true rfl) ⟨Nat.le_of_ble_eq_true rfl, Nat.le_of_ble_eq_true rfl⟩ dX1_runSearch_37 (fun v ty' w' hp hk' => ?_)
        obtain ⟨y6345, hC, rfl, rfl⟩ := hp
        replace hF := FE.lt hF (fe_s hC)
        show GW κ 5 0 0 (wX q d I5732 A5732) 40 [(2, .int 2147483647), (0, .ref (q 43)), (1, .int z1)] [.int y6345, .int z1, .ref (q 37)]
        refine g_callV (n := 2) hk (k224_X0_openQuery l D zt q d I5732 A5732 z1 y6345 hV5732) (SP.same _) (fun _ h => h) (gi_V (List.mem_cons_of_mem _ (List.mem_append_left _ (List.mem_of_getElem? (i := 8) rfl))) (List.mem_cons_of_mem _ (List.mem_append_left _ (List.mem_of_getElem? (i := 9) rfl))) (List.mem_cons_of_mem _ (List.mem_append_left _ (List.mem_of_getElem? (i := 10) rfl))) (List.mem_cons_of_mem _ (List.mem_append_left _ (List.mem_of_getElem? (i := 11) rfl))) (gi_sub (fun w h => (List.mem_cons_of_mem _ (List.mem_append_right _ (List.mem_append_right _ (List.mem_append_right _ (List.mem_append_right _ (List.mem_append_right _ (List.mem_append_left _ h)))))))) zg_k224_X0_openQuery)) rfl rfl rfl (by decide +kernel) ⟨Nat.le_of_ble_eq_true rfl, Nat.le_of_ble_eq_true rfl⟩ 37 rfl rfl rfl rfl (Nat.le_of_ble_eq_true rfl) ⟨Nat.le_of_ble_eq_true rfl, Nat.le_of_ble_eq_true rfl⟩ dX1_runSearch_40 (fun v ty' w' hp hk' => ?_)
        obtain ⟨I6347, A6347, hI6347, hA6347, hV6347, hC, rfl, rfl⟩ := hp
        replace hF := FE.bdX hF hC
        show GW κ 5 0 0 (wX q d I6347 A6347) 43 [(2, .int 2147483647), (0, .ref (q 43)), (1, .int z1)] []
        refine g_iconst (v := 0) hk dX1_runSearch_43 (by decide) ?_
        refine g_istore_n (lv' := [(3, .int 0), (2, .int 2147483647), (0, .ref (q 43)), (1, .int z1)]) hk dX1_runSearch_44 (by decide) rfl ?_
        have lp6568 : ∀ (n6569 : Nat) (x6348 : Int32) (x6349 : Int32) (I6352 : Nat → Int32) (A6352 : Nat → Nat → Int32), (Md [33, 34] I6347 I6352) → (Md [22, 23, 25] A6347 A6352) → (IvX I6352 A6352) → (0 ≤ x6348.toInt) → (x6348.toInt ≤ 160) → (161 - x6348.toInt < (n6569 : Int)) → (0 < n6569) → (FE (fX1_runSearch I A z1) (itr_iiIA dfX (bX1_runSearch_45 I z1) n6569 x6348 x6349 I6352 A6352)) → GW κ 5 0 0 (wX q d I6352 A6352) 45 [(3, .int x6348), (2, .int x6349), (0, .ref (q 43)), (1, .int z1)] [] := by
          intro n6569
          induction n6569 with
          | zero =>
            intro x6348 x6349 I6352 A6352 hI6352 hA6352 hV6352 h6566 h6567 m6570 m6570z hF
            exact absurd m6570z (Nat.lt_irrefl 0)
          | succ n6569 ih6572 =>
            intro x6348 x6349 I6352 A6352 hI6352 hA6352 hV6352 h6566 h6567 m6570 m6570z hF
            replace hF := FE.itr_iiIA hF
            refine g_iload_n hk dX1_runSearch_45 rfl ?_
            refine g_aload_n hk dX1_runSearch_46 rfl ?_
            refine gX_r43_1 hk hin1 (List.mem_cons_of_mem _ (List.mem_append_left _ (List.mem_of_getElem? (i := 12) rfl))) dX1_runSearch_47 ?_
            refine gX_i18 (v := (I 18)) hk hin6 (List.mem_cons_of_mem _ (List.mem_append_left _ (List.mem_of_getElem? (i := 13) rfl))) dX1_runSearch_50 ((hI6352 18 rfl).trans ((hI6347 18 rfl).trans (hI5732 18 rfl))) ?_
            have f6573 := IvX_f18 hIv
            refine g_icmp_ge (tgt := 124) (a := x6348.toInt) (b := (I 18).toInt) hk dX1_runSearch_53 (by decide) rfl rfl (fun c6574 => ?_) (fun c6574 => ?_)
            · skip
              replace hF := FE.pos hF c6574
              exact g_vret hk hR ⟨I6352, A6352, (show Md [28, 30, 31, 32, 33, 34] I I6352 from (Md.tr (Md.tr (Md.tr Md.rf hI5732 rfl) hI6347 rfl) hI6352 rfl)), (show Md [21, 22, 23, 25] A A6352 from (Md.tr (Md.tr (Md.tr Md.rf hA5732 rfl) hA6347 rfl) hA6352 rfl)), hV6352, hF, rfl, rfl⟩ dX1_runSearch_124
            · skip
              replace hF := FE.neg hF c6574
              refine g_aload_n hk dX1_runSearch_56 rfl ?_
              refine gX_r43_1 hk hin1 (List.mem_cons_of_mem _ (List.mem_append_left _ (List.mem_of_getElem? (i := 12) rfl))) dX1_runSearch_57 ?_
              refine g_iload_n hk dX1_runSearch_60 rfl ?_
              refine g_aload_n hk dX1_runSearch_61 rfl ?_
              refine gX_r43_2 hk hin1 (List.mem_cons_of_mem _ (List.mem_append_left _ (List.mem_of_getElem? (i := 14) rfl))) dX1_runSearch_62 ?_
              refine g_iload_n hk dX1_runSearch_65 rfl ?_
              refine g_callV (n := 1) hk (k182_X4_lengthOf l D zt q d I6352 A6352 z1 hV6352) (SP.same _) (fun _ h => h) (gi_V (List.mem_cons_of_mem _ (List.mem_append_left _ (List.mem_of_getElem? (i := 15) rfl))) (List.mem_cons_of_mem _ (List.mem_append_left _ (List.mem_of_getElem? (i := 16) rfl))) (List.mem_cons_of_mem _ (List.mem_append_left _ (List.mem_of_getElem? (i := 17) rfl))) (List.mem_cons_of_mem _ (List.mem_append_left _ (List.mem_of_getElem? (i := 18) rfl))) (gi_sub (fun w h => (List.mem_cons_of_mem _ (List.mem_append_right _ (List.mem_append_right _ (List.mem_append_right _ (List.mem_append_right _ (List.mem_append_right _ (List.mem_append_right _ (List.mem_append_left _ h))))))))) zg_k165_X4_lengthOf)) rfl rfl rfl (by decide +kernel) ⟨Nat.le_of_ble_eq_true rfl, Nat.le_of_ble_eq_true rfl⟩ 15 rfl rfl rfl rfl (Nat.le_of_ble_eq_true rfl) ⟨Nat.le_of_ble_eq_true rfl, Nat.le_of_ble_eq_true rfl⟩ dX1_runSearch_66 (fun v ty' w' hp hk' => ?_)
              rcases hp with ⟨hC, rfl, rfl⟩ | ⟨y6582, c6576, c6577, c6578, c6579, c6580, c6581, c6583, c6584, hC, rfl, rfl⟩
              · skip
                replace hF := FE.pos hF (fe_2 hC)
                show GW κ 5 0 0 (wX q d I6352 A6352) 69 [(3, .int x6348), (2, .int x6349), (0, .ref (q 43)), (1, .int z1)] [.int 0, .int x6348, .ref (q 13)]
                refine g_callV (n := 2) hk (k207_X6_hasWindow l D zt q d I6352 A6352 x6348 0 hV6352) (SP.same _) (fun _ h => h) (gi_V (List.mem_cons_of_mem _ (List.mem_append_left _ (List.mem_of_getElem? (i := 19) rfl))) (List.mem_cons_of_mem _ (List.mem_append_left _ (List.mem_of_getElem? (i := 20) rfl))) (List.mem_cons_of_mem _ (List.mem_append_left _ (List.mem_of_getElem? (i := 21) rfl))) (List.mem_cons_of_mem _ (List.mem_append_left _ (List.mem_of_getElem? (i := 22) rfl))) (gi_sub (fun w h => (List.mem_cons_of_mem _ (List.mem_append_right _ (List.mem_append_right _ (List.mem_append_right _ (List.mem_append_right _ (List.mem_append_right _ (List.mem_append_right _ (List.mem_append_right _ (List.mem_append_left _ h)))))))))) zg_k207_X6_hasWindow)) rfl rfl rfl (by decide +kernel) ⟨Nat.le_of_ble_eq_true rfl, Nat.le_of_ble_eq_true rfl⟩ 13 rfl rfl rfl rfl (Nat.le_of_ble_eq_true rfl) ⟨Nat.le_of_ble_eq_true rfl, Nat.le_of_ble_eq_true rfl⟩ dX1_runSearch_69 (fun v ty' w' hp hk' => ?_)
                rcases hp with ⟨hC, rfl, rfl⟩ | ⟨c6586, c6587, c6588, c6589, c6590, c6591, hC, rfl, rfl⟩
                · skip
                  replace hF := FE.pos hF hC
                  show GW κ 5 0 0 (wX q d I6352 A6352) 72 [(3, .int x6348), (2, .int x6349), (0, .ref (q 43)), (1, .int z1)] [.int 0]
                  refine g_if_eq (tgt := 118) (a := 0) hk dX1_runSearch_72 (by decide) rfl (fun _ => ?_) (fun z9 => absurd (show (0 : Int) = (0 : Int) from by decide) z9)
                  obtain ⟨y6593, ey6593⟩ : ∃ y : Int32, y = x6348 + Int32.ofInt 1 := ⟨_, rfl⟩
                  replace hF := FE.lt hF ey6593
                  have hy6593 : y6593.toInt = x6348.toInt + 1 := i32_add ey6593 rfl (by decide) (by omega) (by omega)
                  refine g_iinc (v := y6593) (lv' := [(3, .int y6593), (2, .int x6349), (0, .ref (q 43)), (1, .int z1)]) hk 0 dX1_runSearch_118 rfl ey6593.symm (by decide) rfl ?_
                  refine g_goto (tgt := 45) hk dX1_runSearch_121 (by decide) ?_
                  exact g_lv (List.forall_mem_cons.mpr ⟨List.mem_of_getElem? (i := 0) rfl, (List.forall_mem_cons.mpr ⟨List.mem_of_getElem? (i := 1) rfl, (List.forall_mem_cons.mpr ⟨List.mem_of_getElem? (i := 2) rfl, (List.forall_mem_cons.mpr ⟨List.mem_of_getElem? (i := 3) rfl, (fun _ h => absurd h List.not_mem_nil)⟩)⟩)⟩)⟩) (ih6572 y6593 x6349 I6352 A6352 (show Md [33, 34] I6347 I6352 from Md.tr hI6352 (show Md [33, 34] I6352 I6352 from Md.rf) rfl) (show Md [22, 23, 25] A6347 A6352 from Md.tr hA6352 (show Md [22, 23, 25] A6352 A6352 from Md.rf) rfl) hV6352 (by omega) (by omega) (by omega) (by omega) hF)
                · skip
                  replace hF := FE.neg hF (fe_ne hC (by decide))
                  show GW κ 5 0 0 (wX q d I6352 A6352) 72 [(3, .int x6348), (2, .int x6349), (0, .ref (q 43)), (1, .int z1)] [.int 1]
                  refine g_if_eq (tgt := 118) (a := 1) hk dX1_runSearch_72 (by decide) rfl (fun z9 => absurd z9 (show ¬ ((1 : Int) = (0 : Int)) from by decide)) (fun _ => ?_)
                  refine g_aload_n hk dX1_runSearch_75 rfl ?_
                  refine gX_r43_0 hk hin1 (List.mem_cons_of_mem _ (List.mem_append_left _ (List.mem_of_getElem? (i := 2) rfl))) dX1_runSearch_76 ?_
                  refine g_iload_n hk dX1_runSearch_79 rfl ?_
                  refine g_callV (n := 1) hk (k226_X0_laySecondWindow l D zt q d I6352 A6352 x6348 hV6352) (SP.same _) (fun _ h => h) (gi_V (List.mem_cons_of_mem _ (List.mem_append_left _ (List.mem_of_getElem? (i := 23) rfl))) (List.mem_cons_of_mem _ (List.mem_append_left _ (List.mem_of_getElem? (i := 24) rfl))) (List.mem_cons_of_mem _ (List.mem_append_left _ (List.mem_of_getElem? (i := 25) rfl))) (List.mem_cons_of_mem _ (List.mem_append_left _ (List.mem_of_getElem? (i := 11) rfl))) (gi_sub (fun w h => (List.mem_cons_of_mem _ (List.mem_append_right _ (List.mem_append_right _ (List.mem_append_right _ (List.mem_append_right _ (List.mem_append_right _ (List.mem_append_right _ (List.mem_append_right _ (List.mem_append_right _ (List.mem_append_left _ h))))))))))) zg_k226_X0_laySecondWindow)) rfl rfl rfl (by decide +kernel) ⟨Nat.le_of_ble_eq_true rfl, Nat.le_of_ble_eq_true rfl⟩ 37 rfl rfl rfl rfl (Nat.le_of_ble_eq_true rfl) ⟨Nat.le_of_ble_eq_true rfl, Nat.le_of_ble_eq_true rfl⟩ dX1_runSearch_80 (fun v ty' w' hp hk' => ?_)
                  obtain ⟨I6595, A6595, hI6595, hA6595, hV6595, hC, rfl, rfl⟩ := hp
                  replace hF := FE.bdX hF hC
                  show GW κ 5 0 0 (wX q d I6595 A6595) 83 [(3, .int x6348), (2, .int x6349), (0, .ref (q 43)), (1, .int z1)] []
                  refine g_aload_n hk dX1_runSearch_83 rfl ?_
                  refine gX_r43_0 hk hin1 (List.mem_cons_of_mem _ (List.mem_append_left _ (List.mem_of_getElem? (i := 2) rfl))) dX1_runSearch_84 ?_
                  refine gX_r37_3 hk hin0 (List.mem_cons_of_mem _ (List.mem_append_left _ (List.mem_of_getElem? (i := 26) rfl))) dX1_runSearch_87 ?_
                  refine g_iload_n hk dX1_runSearch_90 rfl ?_
                  refine g_callV (n := 1) hk (k247_X2_lookAt l D zt q d I6595 A6595 x6349 hV6595) (SP.same _) (fun _ h => h) (gi_V (List.mem_cons_of_mem _ (List.mem_append_left _ (List.mem_of_getElem? (i := 27) rfl))) (List.mem_cons_of_mem _ (List.mem_append_left _ (List.mem_of_getElem? (i := 28) rfl))) (List.mem_cons_of_mem _ (List.mem_append_left _ (List.mem_of_getElem? (i := 29) rfl))) (List.mem_cons_of_mem _ (List.mem_append_left _ (List.mem_of_getElem? (i := 30) rfl))) (gi_sub (fun w h => (List.mem_cons_of_mem _ (List.mem_append_right _ (List.mem_append_right _ (List.mem_append_right _ (List.mem_append_right _ (List.mem_append_right _ (List.mem_append_right _ (List.mem_append_right _ (List.mem_append_right _ (List.mem_append_right _ (List.mem_append_left _ h)))))))))))) zg_k247_X2_lookAt)) rfl rfl rfl (by decide +kernel) ⟨Nat.le_of_ble_eq_true rfl, Nat.le_of_ble_eq_true rfl⟩ 38 rfl rfl rfl rfl (Nat.le_of_ble_eq_true rfl) ⟨Nat.le_of_ble_eq_true rfl, Nat.le_of_ble_eq_true rfl⟩ dX1_runSearch_91 (fun v ty' w' hp hk' => ?_)
                  obtain ⟨I6599, A6599, hI6599, hA6599, hV6599, y6596, c6597, c6598, hC, rfl, rfl⟩ := hp
                  replace hF := FE.bdX hF hC
                  show GW κ 5 0 0 (wX q d I6599 A6599) 94 [(3, .int x6348), (2, .int x6349), (0, .ref (q 43)), (1, .int z1)] [.int y6596]
                  refine g_istore (lv' := [(4, .int y6596), (3, .int x6348), (2, .int x6349), (0, .ref (q 43)), (1, .int z1)]) hk dX1_runSearch_94 (by decide) rfl ?_
                  refine g_aload_n hk dX1_runSearch_96 rfl ?_
                  refine g_iload hk dX1_runSearch_97 rfl ?_
                  refine g_callV (n := 1) hk (k267_X1_addToTally l D zt q d I6599 A6599 y6596 hV6599) (SP.same _) (fun _ h => h) (gi_V (List.mem_cons_of_mem _ (List.mem_append_left _ (List.mem_of_getElem? (i := 31) rfl))) (List.mem_cons_of_mem _ (List.mem_append_left _ (List.mem_of_getElem? (i := 32) rfl))) (List.mem_cons_of_mem _ (List.mem_append_left _ (List.mem_of_getElem? (i := 33) rfl))) (List.mem_cons_of_mem _ (List.mem_append_left _ (List.mem_of_getElem? (i := 34) rfl))) (gi_sub (fun w h => (List.mem_cons_of_mem _ (List.mem_append_right _ (List.mem_append_right _ (List.mem_append_right _ (List.mem_append_right _ (List.mem_append_right _ (List.mem_append_right _ (List.mem_append_right _ (List.mem_append_right _ (List.mem_append_right _ (List.mem_append_right _ (List.mem_append_left _ h))))))))))))) zg_k267_X1_addToTally)) rfl rfl rfl (by decide +kernel) ⟨Nat.le_of_ble_eq_true rfl, Nat.le_of_ble_eq_true rfl⟩ 43 rfl rfl rfl rfl (Nat.le_of_ble_eq_true rfl) ⟨Nat.le_of_ble_eq_true rfl, Nat.le_of_ble_eq_true rfl⟩ dX1_runSearch_99 (fun v ty' w' hp hk' => ?_)
                  obtain ⟨I6601, A6601, hI6601, hA6601, hV6601, hC, rfl, rfl⟩ := hp
                  replace hF := FE.bdX hF hC
                  show GW κ 5 0 0 (wX q d I6601 A6601) 102 [(4, .int y6596), (3, .int x6348), (2, .int x6349), (0, .ref (q 43)), (1, .int z1)] []
                  refine g_iload hk dX1_runSearch_102 rfl ?_
                  refine g_if_ne (tgt := 118) (a := y6596.toInt) hk dX1_runSearch_104 (by decide) rfl (fun c6602 => ?_) (fun c6602 => ?_)
                  · skip
                    replace hF := FE.pos hF c6602
                    obtain ⟨y6603, ey6603⟩ : ∃ y : Int32, y = x6348 + Int32.ofInt 1 := ⟨_, rfl⟩
                    replace hF := FE.lt hF ey6603
                    have hy6603 : y6603.toInt = x6348.toInt + 1 := i32_add ey6603 rfl (by decide) (by omega) (by omega)
                    refine g_iinc (v := y6603) (lv' := [(3, .int y6603), (4, .int y6596), (2, .int x6349), (0, .ref (q 43)), (1, .int z1)]) hk 1 dX1_runSearch_118 rfl ey6603.symm (by decide) rfl ?_
                    refine g_goto (tgt := 45) hk dX1_runSearch_121 (by decide) ?_
                    exact g_lv (List.forall_mem_cons.mpr ⟨List.mem_of_getElem? (i := 0) rfl, (List.forall_mem_cons.mpr ⟨List.mem_of_getElem? (i := 2) rfl, (List.forall_mem_cons.mpr ⟨List.mem_of_getElem? (i := 3) rfl, (List.forall_mem_cons.mpr ⟨List.mem_of_getElem? (i := 4) rfl, (fun _ h => absurd h List.not_mem_nil)⟩)⟩)⟩)⟩) (ih6572 y6603 x6349 I6601 A6601 (show Md [33, 34] I6347 I6601 from Md.tr hI6352 (show Md [33, 34] I6352 I6601 from (Md.tr (Md.tr (Md.tr Md.rf hI6595 rfl) hI6599 rfl) hI6601 rfl)) rfl) (show Md [22, 23, 25] A6347 A6601 from Md.tr hA6352 (show Md [22, 23, 25] A6352 A6601 from (Md.tr (Md.tr (Md.tr Md.rf hA6595 rfl) hA6599 rfl) hA6601 rfl)) rfl) hV6601 (by omega) (by omega) (by omega) (by omega) hF)
                  · skip
                    replace hF := FE.neg hF c6602
                    refine g_aload_n hk dX1_runSearch_107 rfl ?_
                    refine gX_r43_0 hk hin1 (List.mem_cons_of_mem _ (List.mem_append_left _ (List.mem_of_getElem? (i := 2) rfl))) dX1_runSearch_108 ?_
                    refine gX_r37_3 hk hin0 (List.mem_cons_of_mem _ (List.mem_append_left _ (List.mem_of_getElem? (i := 26) rfl))) dX1_runSearch_111 ?_
                    refine g_callV (n := 0) hk (k237_X2_laidDistance l D zt q d I6601 A6601  hV6601) (SP.same _) (fun _ h => h) (gi_V (List.mem_cons_of_mem _ (List.mem_append_left _ (List.mem_of_getElem? (i := 35) rfl))) (List.mem_cons_of_mem _ (List.mem_append_left _ (List.mem_of_getElem? (i := 36) rfl))) (List.mem_cons_of_mem _ (List.mem_append_left _ (List.mem_of_getElem? (i := 37) rfl))) (List.mem_cons_of_mem _ (List.mem_append_left _ (List.mem_of_getElem? (i := 30) rfl))) (gi_sub (fun w h => (List.mem_cons_of_mem _ (List.mem_append_right _ (List.mem_append_right _ (List.mem_append_right _ (List.mem_append_right _ (List.mem_append_right _ (List.mem_append_right _ (List.mem_append_right _ (List.mem_append_right _ (List.mem_append_right _ (List.mem_append_right _ (List.mem_append_right _ (List.mem_append_left _ h)))))))))))))) zg_k237_X2_laidDistance)) rfl rfl rfl (by decide +kernel) ⟨Nat.le_of_ble_eq_true rfl, Nat.le_of_ble_eq_true rfl⟩ 38 rfl rfl rfl rfl (Nat.le_of_ble_eq_true rfl) ⟨Nat.le_of_ble_eq_true rfl, Nat.le_of_ble_eq_true rfl⟩ dX1_runSearch_114 (fun v ty' w' hp hk' => ?_)
                    obtain ⟨y6604, hC, rfl, rfl⟩ := hp
                    replace hF := FE.lt hF (fe_s hC)
                    show GW κ 5 0 0 (wX q d I6601 A6601) 117 [(4, .int y6596), (3, .int x6348), (2, .int x6349), (0, .ref (q 43)), (1, .int z1)] [.int y6604]
                    refine g_istore_n (lv' := [(2, .int y6604), (4, .int y6596), (3, .int x6348), (0, .ref (q 43)), (1, .int z1)]) hk dX1_runSearch_117 (by decide) rfl ?_
                    obtain ⟨y6605, ey6605⟩ : ∃ y : Int32, y = x6348 + Int32.ofInt 1 := ⟨_, rfl⟩
                    replace hF := FE.lt hF ey6605
                    have hy6605 : y6605.toInt = x6348.toInt + 1 := i32_add ey6605 rfl (by decide) (by omega) (by omega)
                    refine g_iinc (v := y6605) (lv' := [(3, .int y6605), (2, .int y6604), (4, .int y6596), (0, .ref (q 43)), (1, .int z1)]) hk 2 dX1_runSearch_118 rfl ey6605.symm (by decide) rfl ?_
                    refine g_goto (tgt := 45) hk dX1_runSearch_121 (by decide) ?_
                    exact g_lv (List.forall_mem_cons.mpr ⟨List.mem_of_getElem? (i := 0) rfl, (List.forall_mem_cons.mpr ⟨List.mem_of_getElem? (i := 1) rfl, (List.forall_mem_cons.mpr ⟨List.mem_of_getElem? (i := 3) rfl, (List.forall_mem_cons.mpr ⟨List.mem_of_getElem? (i := 4) rfl, (fun _ h => absurd h List.not_mem_nil)⟩)⟩)⟩)⟩) (ih6572 y6605 y6604 I6601 A6601 (show Md [33, 34] I6347 I6601 from Md.tr hI6352 (show Md [33, 34] I6352 I6601 from (Md.tr (Md.tr (Md.tr Md.rf hI6595 rfl) hI6599 rfl) hI6601 rfl)) rfl) (show Md [22, 23, 25] A6347 A6601 from Md.tr hA6352 (show Md [22, 23, 25] A6352 A6601 from (Md.tr (Md.tr (Md.tr Md.rf hA6595 rfl) hA6599 rfl) hA6601 rfl)) rfl) hV6601 (by omega) (by omega) (by omega) (by omega) hF)
              · skip
                replace hF := FE.neg hF (fe_ne2 hC (by decide))
                replace hF := FE.lt hF (fe_1 hC)
                show GW κ 5 0 0 (wX q d I6352 A6352) 69 [(3, .int x6348), (2, .int x6349), (0, .ref (q 43)), (1, .int z1)] [.int y6582, .int x6348, .ref (q 13)]
                refine g_callV (n := 2) hk (k207_X6_hasWindow l D zt q d I6352 A6352 x6348 y6582 hV6352) (SP.same _) (fun _ h => h) (gi_V (List.mem_cons_of_mem _ (List.mem_append_left _ (List.mem_of_getElem? (i := 19) rfl))) (List.mem_cons_of_mem _ (List.mem_append_left _ (List.mem_of_getElem? (i := 20) rfl))) (List.mem_cons_of_mem _ (List.mem_append_left _ (List.mem_of_getElem? (i := 21) rfl))) (List.mem_cons_of_mem _ (List.mem_append_left _ (List.mem_of_getElem? (i := 22) rfl))) (gi_sub (fun w h => (List.mem_cons_of_mem _ (List.mem_append_right _ (List.mem_append_right _ (List.mem_append_right _ (List.mem_append_right _ (List.mem_append_right _ (List.mem_append_right _ (List.mem_append_right _ (List.mem_append_left _ h)))))))))) zg_k207_X6_hasWindow)) rfl rfl rfl (by decide +kernel) ⟨Nat.le_of_ble_eq_true rfl, Nat.le_of_ble_eq_true rfl⟩ 13 rfl rfl rfl rfl (Nat.le_of_ble_eq_true rfl) ⟨Nat.le_of_ble_eq_true rfl, Nat.le_of_ble_eq_true rfl⟩ dX1_runSearch_69 (fun v ty' w' hp hk' => ?_)
                rcases hp with ⟨hC, rfl, rfl⟩ | ⟨c6607, c6608, c6609, c6610, c6611, c6612, hC, rfl, rfl⟩
                · skip
                  replace hF := FE.pos hF hC
                  show GW κ 5 0 0 (wX q d I6352 A6352) 72 [(3, .int x6348), (2, .int x6349), (0, .ref (q 43)), (1, .int z1)] [.int 0]
                  refine g_if_eq (tgt := 118) (a := 0) hk dX1_runSearch_72 (by decide) rfl (fun _ => ?_) (fun z9 => absurd (show (0 : Int) = (0 : Int) from by decide) z9)
                  obtain ⟨y6614, ey6614⟩ : ∃ y : Int32, y = x6348 + Int32.ofInt 1 := ⟨_, rfl⟩
                  replace hF := FE.lt hF ey6614
                  have hy6614 : y6614.toInt = x6348.toInt + 1 := i32_add ey6614 rfl (by decide) (by omega) (by omega)
                  refine g_iinc (v := y6614) (lv' := [(3, .int y6614), (2, .int x6349), (0, .ref (q 43)), (1, .int z1)]) hk 0 dX1_runSearch_118 rfl ey6614.symm (by decide) rfl ?_
                  refine g_goto (tgt := 45) hk dX1_runSearch_121 (by decide) ?_
                  exact g_lv (List.forall_mem_cons.mpr ⟨List.mem_of_getElem? (i := 0) rfl, (List.forall_mem_cons.mpr ⟨List.mem_of_getElem? (i := 1) rfl, (List.forall_mem_cons.mpr ⟨List.mem_of_getElem? (i := 2) rfl, (List.forall_mem_cons.mpr ⟨List.mem_of_getElem? (i := 3) rfl, (fun _ h => absurd h List.not_mem_nil)⟩)⟩)⟩)⟩) (ih6572 y6614 x6349 I6352 A6352 (show Md [33, 34] I6347 I6352 from Md.tr hI6352 (show Md [33, 34] I6352 I6352 from Md.rf) rfl) (show Md [22, 23, 25] A6347 A6352 from Md.tr hA6352 (show Md [22, 23, 25] A6352 A6352 from Md.rf) rfl) hV6352 (by omega) (by omega) (by omega) (by omega) hF)
                · skip
                  replace hF := FE.neg hF (fe_ne hC (by decide))
                  show GW κ 5 0 0 (wX q d I6352 A6352) 72 [(3, .int x6348), (2, .int x6349), (0, .ref (q 43)), (1, .int z1)] [.int 1]
                  refine g_if_eq (tgt := 118) (a := 1) hk dX1_runSearch_72 (by decide) rfl (fun z9 => absurd z9 (show ¬ ((1 : Int) = (0 : Int)) from by decide)) (fun _ => ?_)
                  refine g_aload_n hk dX1_runSearch_75 rfl ?_
                  refine gX_r43_0 hk hin1 (List.mem_cons_of_mem _ (List.mem_append_left _ (List.mem_of_getElem? (i := 2) rfl))) dX1_runSearch_76 ?_
                  refine g_iload_n hk dX1_runSearch_79 rfl ?_
                  refine g_callV (n := 1) hk (k226_X0_laySecondWindow l D zt q d I6352 A6352 x6348 hV6352) (SP.same _) (fun _ h => h) (gi_V (List.mem_cons_of_mem _ (List.mem_append_left _ (List.mem_of_getElem? (i := 23) rfl))) (List.mem_cons_of_mem _ (List.mem_append_left _ (List.mem_of_getElem? (i := 24) rfl))) (List.mem_cons_of_mem _ (List.mem_append_left _ (List.mem_of_getElem? (i := 25) rfl))) (List.mem_cons_of_mem _ (List.mem_append_left _ (List.mem_of_getElem? (i := 11) rfl))) (gi_sub (fun w h => (List.mem_cons_of_mem _ (List.mem_append_right _ (List.mem_append_right _ (List.mem_append_right _ (List.mem_append_right _ (List.mem_append_right _ (List.mem_append_right _ (List.mem_append_right _ (List.mem_append_right _ (List.mem_append_left _ h))))))))))) zg_k226_X0_laySecondWindow)) rfl rfl rfl (by decide +kernel) ⟨Nat.le_of_ble_eq_true rfl, Nat.le_of_ble_eq_true rfl⟩ 37 rfl rfl rfl rfl (Nat.le_of_ble_eq_true rfl) ⟨Nat.le_of_ble_eq_true rfl, Nat.le_of_ble_eq_true rfl⟩ dX1_runSearch_80 (fun v ty' w' hp hk' => ?_)
                  obtain ⟨I6616, A6616, hI6616, hA6616, hV6616, hC, rfl, rfl⟩ := hp
                  replace hF := FE.bdX hF hC
                  show GW κ 5 0 0 (wX q d I6616 A6616) 83 [(3, .int x6348), (2, .int x6349), (0, .ref (q 43)), (1, .int z1)] []
                  refine g_aload_n hk dX1_runSearch_83 rfl ?_
                  refine gX_r43_0 hk hin1 (List.mem_cons_of_mem _ (List.mem_append_left _ (List.mem_of_getElem? (i := 2) rfl))) dX1_runSearch_84 ?_
                  refine gX_r37_3 hk hin0 (List.mem_cons_of_mem _ (List.mem_append_left _ (List.mem_of_getElem? (i := 26) rfl))) dX1_runSearch_87 ?_
                  refine g_iload_n hk dX1_runSearch_90 rfl ?_
                  refine g_callV (n := 1) hk (k247_X2_lookAt l D zt q d I6616 A6616 x6349 hV6616) (SP.same _) (fun _ h => h) (gi_V (List.mem_cons_of_mem _ (List.mem_append_left _ (List.mem_of_getElem? (i := 27) rfl))) (List.mem_cons_of_mem _ (List.mem_append_left _ (List.mem_of_getElem? (i := 28) rfl))) (List.mem_cons_of_mem _ (List.mem_append_left _ (List.mem_of_getElem? (i := 29) rfl))) (List.mem_cons_of_mem _ (List.mem_append_left _ (List.mem_of_getElem? (i := 30) rfl))) (gi_sub (fun w h => (List.mem_cons_of_mem _ (List.mem_append_right _ (List.mem_append_right _ (List.mem_append_right _ (List.mem_append_right _ (List.mem_append_right _ (List.mem_append_right _ (List.mem_append_right _ (List.mem_append_right _ (List.mem_append_right _ (List.mem_append_left _ h)))))))))))) zg_k247_X2_lookAt)) rfl rfl rfl (by decide +kernel) ⟨Nat.le_of_ble_eq_true rfl, Nat.le_of_ble_eq_true rfl⟩ 38 rfl rfl rfl rfl (Nat.le_of_ble_eq_true rfl) ⟨Nat.le_of_ble_eq_true rfl, Nat.le_of_ble_eq_true rfl⟩ dX1_runSearch_91 (fun v ty' w' hp hk' => ?_)
                  obtain ⟨I6620, A6620, hI6620, hA6620, hV6620, y6617, c6618, c6619, hC, rfl, rfl⟩ := hp
                  replace hF := FE.bdX hF hC
                  show GW κ 5 0 0 (wX q d I6620 A6620) 94 [(3, .int x6348), (2, .int x6349), (0, .ref (q 43)), (1, .int z1)] [.int y6617]
                  refine g_istore (lv' := [(4, .int y6617), (3, .int x6348), (2, .int x6349), (0, .ref (q 43)), (1, .int z1)]) hk dX1_runSearch_94 (by decide) rfl ?_
                  refine g_aload_n hk dX1_runSearch_96 rfl ?_
                  refine g_iload hk dX1_runSearch_97 rfl ?_
                  refine g_callV (n := 1) hk (k267_X1_addToTally l D zt q d I6620 A6620 y6617 hV6620) (SP.same _) (fun _ h => h) (gi_V (List.mem_cons_of_mem _ (List.mem_append_left _ (List.mem_of_getElem? (i := 31) rfl))) (List.mem_cons_of_mem _ (List.mem_append_left _ (List.mem_of_getElem? (i := 32) rfl))) (List.mem_cons_of_mem _ (List.mem_append_left _ (List.mem_of_getElem? (i := 33) rfl))) (List.mem_cons_of_mem _ (List.mem_append_left _ (List.mem_of_getElem? (i := 34) rfl))) (gi_sub (fun w h => (List.mem_cons_of_mem _ (List.mem_append_right _ (List.mem_append_right _ (List.mem_append_right _ (List.mem_append_right _ (List.mem_append_right _ (List.mem_append_right _ (List.mem_append_right _ (List.mem_append_right _ (List.mem_append_right _ (List.mem_append_right _ (List.mem_append_left _ h))))))))))))) zg_k267_X1_addToTally)) rfl rfl rfl (by decide +kernel) ⟨Nat.le_of_ble_eq_true rfl, Nat.le_of_ble_eq_true rfl⟩ 43 rfl rfl rfl rfl (Nat.le_of_ble_eq_true rfl) ⟨Nat.le_of_ble_eq_true rfl, Nat.le_of_ble_eq_true rfl⟩ dX1_runSearch_99 (fun v ty' w' hp hk' => ?_)
                  obtain ⟨I6622, A6622, hI6622, hA6622, hV6622, hC, rfl, rfl⟩ := hp
                  replace hF := FE.bdX hF hC
                  show GW κ 5 0 0 (wX q d I6622 A6622) 102 [(4, .int y6617), (3, .int x6348), (2, .int x6349), (0, .ref (q 43)), (1, .int z1)] []
                  refine g_iload hk dX1_runSearch_102 rfl ?_
                  refine g_if_ne (tgt := 118) (a := y6617.toInt) hk dX1_runSearch_104 (by decide) rfl (fun c6623 => ?_) (fun c6623 => ?_)
                  · skip
                    replace hF := FE.pos hF c6623
                    obtain ⟨y6624, ey6624⟩ : ∃ y : Int32, y = x6348 + Int32.ofInt 1 := ⟨_, rfl⟩
                    replace hF := FE.lt hF ey6624
                    have hy6624 : y6624.toInt = x6348.toInt + 1 := i32_add ey6624 rfl (by decide) (by omega) (by omega)
                    refine g_iinc (v := y6624) (lv' := [(3, .int y6624), (4, .int y6617), (2, .int x6349), (0, .ref (q 43)), (1, .int z1)]) hk 1 dX1_runSearch_118 rfl ey6624.symm (by decide) rfl ?_
                    refine g_goto (tgt := 45) hk dX1_runSearch_121 (by decide) ?_
                    exact g_lv (List.forall_mem_cons.mpr ⟨List.mem_of_getElem? (i := 0) rfl, (List.forall_mem_cons.mpr ⟨List.mem_of_getElem? (i := 2) rfl, (List.forall_mem_cons.mpr ⟨List.mem_of_getElem? (i := 3) rfl, (List.forall_mem_cons.mpr ⟨List.mem_of_getElem? (i := 4) rfl, (fun _ h => absurd h List.not_mem_nil)⟩)⟩)⟩)⟩) (ih6572 y6624 x6349 I6622 A6622 (show Md [33, 34] I6347 I6622 from Md.tr hI6352 (show Md [33, 34] I6352 I6622 from (Md.tr (Md.tr (Md.tr Md.rf hI6616 rfl) hI6620 rfl) hI6622 rfl)) rfl) (show Md [22, 23, 25] A6347 A6622 from Md.tr hA6352 (show Md [22, 23, 25] A6352 A6622 from (Md.tr (Md.tr (Md.tr Md.rf hA6616 rfl) hA6620 rfl) hA6622 rfl)) rfl) hV6622 (by omega) (by omega) (by omega) (by omega) hF)
                  · skip
                    replace hF := FE.neg hF c6623
                    refine g_aload_n hk dX1_runSearch_107 rfl ?_
                    refine gX_r43_0 hk hin1 (List.mem_cons_of_mem _ (List.mem_append_left _ (List.mem_of_getElem? (i := 2) rfl))) dX1_runSearch_108 ?_
                    refine gX_r37_3 hk hin0 (List.mem_cons_of_mem _ (List.mem_append_left _ (List.mem_of_getElem? (i := 26) rfl))) dX1_runSearch_111 ?_
                    refine g_callV (n := 0) hk (k237_X2_laidDistance l D zt q d I6622 A6622  hV6622) (SP.same _) (fun _ h => h) (gi_V (List.mem_cons_of_mem _ (List.mem_append_left _ (List.mem_of_getElem? (i := 35) rfl))) (List.mem_cons_of_mem _ (List.mem_append_left _ (List.mem_of_getElem? (i := 36) rfl))) (List.mem_cons_of_mem _ (List.mem_append_left _ (List.mem_of_getElem? (i := 37) rfl))) (List.mem_cons_of_mem _ (List.mem_append_left _ (List.mem_of_getElem? (i := 30) rfl))) (gi_sub (fun w h => (List.mem_cons_of_mem _ (List.mem_append_right _ (List.mem_append_right _ (List.mem_append_right _ (List.mem_append_right _ (List.mem_append_right _ (List.mem_append_right _ (List.mem_append_right _ (List.mem_append_right _ (List.mem_append_right _ (List.mem_append_right _ (List.mem_append_right _ (List.mem_append_left _ h)))))))))))))) zg_k237_X2_laidDistance)) rfl rfl rfl (by decide +kernel) ⟨Nat.le_of_ble_eq_true rfl, Nat.le_of_ble_eq_true rfl⟩ 38 rfl rfl rfl rfl (Nat.le_of_ble_eq_true rfl) ⟨Nat.le_of_ble_eq_true rfl, Nat.le_of_ble_eq_true rfl⟩ dX1_runSearch_114 (fun v ty' w' hp hk' => ?_)
                    obtain ⟨y6625, hC, rfl, rfl⟩ := hp
                    replace hF := FE.lt hF (fe_s hC)
                    show GW κ 5 0 0 (wX q d I6622 A6622) 117 [(4, .int y6617), (3, .int x6348), (2, .int x6349), (0, .ref (q 43)), (1, .int z1)] [.int y6625]
                    refine g_istore_n (lv' := [(2, .int y6625), (4, .int y6617), (3, .int x6348), (0, .ref (q 43)), (1, .int z1)]) hk dX1_runSearch_117 (by decide) rfl ?_
                    obtain ⟨y6626, ey6626⟩ : ∃ y : Int32, y = x6348 + Int32.ofInt 1 := ⟨_, rfl⟩
                    replace hF := FE.lt hF ey6626
                    have hy6626 : y6626.toInt = x6348.toInt + 1 := i32_add ey6626 rfl (by decide) (by omega) (by omega)
                    refine g_iinc (v := y6626) (lv' := [(3, .int y6626), (2, .int y6625), (4, .int y6617), (0, .ref (q 43)), (1, .int z1)]) hk 2 dX1_runSearch_118 rfl ey6626.symm (by decide) rfl ?_
                    refine g_goto (tgt := 45) hk dX1_runSearch_121 (by decide) ?_
                    exact g_lv (List.forall_mem_cons.mpr ⟨List.mem_of_getElem? (i := 0) rfl, (List.forall_mem_cons.mpr ⟨List.mem_of_getElem? (i := 1) rfl, (List.forall_mem_cons.mpr ⟨List.mem_of_getElem? (i := 3) rfl, (List.forall_mem_cons.mpr ⟨List.mem_of_getElem? (i := 4) rfl, (fun _ h => absurd h List.not_mem_nil)⟩)⟩)⟩)⟩) (ih6572 y6626 y6625 I6622 A6622 (show Md [33, 34] I6347 I6622 from Md.tr hI6352 (show Md [33, 34] I6352 I6622 from (Md.tr (Md.tr (Md.tr Md.rf hI6616 rfl) hI6620 rfl) hI6622 rfl)) rfl) (show Md [22, 23, 25] A6347 A6622 from Md.tr hA6352 (show Md [22, 23, 25] A6352 A6622 from (Md.tr (Md.tr (Md.tr Md.rf hA6616 rfl) hA6620 rfl) hA6622 rfl)) rfl) hV6622 (by omega) (by omega) (by omega) (by omega) hF)
        have k6628 : (2147483647 : Int32).toInt = 2147483647 := rfl
        have n6627a : 161 - 0 < (FU : Int) := by have := FU_eq; omega
        have n6627b : 0 < FU := by have := FU_eq; omega
        exact lp6568 FU 0 2147483647 I6347 A6347 Md.rf Md.rf hV6347 (by omega) (by omega) n6627a n6627b hF
      · skip
        replace hF := FE.neg hF c6343
        refine g_aload_n hk dX1_runSearch_8 rfl ?_
        refine gX_r43_3 hk hin1 (List.mem_cons_of_mem _ (List.mem_append_left _ (List.mem_of_getElem? (i := 0) rfl))) dX1_runSearch_9 ?_
        refine g_iload_n hk dX1_runSearch_12 rfl ?_
        refine g_iconst (v := 0) hk dX1_runSearch_13 (by decide) ?_
        have k6629 : (0 : Int32).toInt = 0 := rfl
        refine sX_25 (j := x5729.toNatClampNeg) hk (vp_in_iff.mpr ⟨by omega, by omega⟩) rfl dX1_runSearch_14 ?_
        obtain ⟨y6630, ey6630⟩ : ∃ y : Int32, y = x5729 + Int32.ofInt 1 := ⟨_, rfl⟩
        replace hF := FE.lt hF ey6630
        have hy6630 : y6630.toInt = x5729.toInt + 1 := i32_add ey6630 rfl (by decide) (by omega) (by omega)
        refine g_iinc (v := y6630) (lv' := [(2, .int y6630), (0, .ref (q 43)), (1, .int z1)]) hk 0 dX1_runSearch_15 rfl ey6630.symm (by decide) rfl ?_
        refine g_goto (tgt := 2) hk dX1_runSearch_18 (by decide) ?_
        exact g_lv (List.forall_mem_cons.mpr ⟨List.mem_of_getElem? (i := 0) rfl, (List.forall_mem_cons.mpr ⟨List.mem_of_getElem? (i := 1) rfl, (List.forall_mem_cons.mpr ⟨List.mem_of_getElem? (i := 2) rfl, (fun _ h => absurd h List.not_mem_nil)⟩)⟩)⟩) (ih6342 y6630 I5732 (up3 A5732 25 (x5729.toNatClampNeg) 0) (show Md [] I I5732 from Md.tr hI5732 (show Md [] I5732 I5732 from Md.rf) rfl) (show Md [25] A (up3 A5732 25 (x5729.toNatClampNeg) 0) from Md.tr hA5732 (show Md [25] A5732 (up3 A5732 25 (x5729.toNatClampNeg) 0) from (Md.up3 Md.rf rfl)) rfl) ⟨(IvX_f0 (I := I5732) (A := A5732) hV5732), (IvX_f18 (I := I5732) (A := A5732) hV5732), (IvX_f30 (I := I5732) (A := A5732) hV5732), (IvX_f31 (I := I5732) (A := A5732) hV5732), (IvX_a4 (I := I5732) (A := A5732) hV5732), (IvX_a9 (I := I5732) (A := A5732) hV5732), trivial⟩ (by omega) (by omega) (by omega) (by omega) hF)
  have k6632 : (0 : Int32).toInt = 0 := rfl
  have n6631a : 10 - 0 < (FU : Int) := by have := FU_eq; omega
  have n6631b : 0 < FU := by have := FU_eq; omega
  exact lp6338 FU 0 I A Md.rf Md.rf hIv (by omega) (by omega) n6631a n6631b hF
noncomputable def fX11_search (I : Nat → Int32) (A : Nat → Nat → Int32) (z1 : Int32) (z2 : Int32) : Int32 × (Nat → Int32) × (Nat → Nat → Int32) := if z2.toInt < 0 then ((-1), I, A) else if 9 ≤ z2.toInt then ((-1), I, A) else if fX4_has_2 I A z1 = 0 then ((-1), I, A) else f_bdX (fX1_runSearch I A z1) fun _ I6634 A6634 => ((A6634 25 z2.toNatClampNeg), I6634, A6634)
def wo_k265_X11_search : List Cond := [Cond.fieldLink RX11 35 "WarpDesk" "queries" "LWarpDesk$Queries;", Cond.methodLink RX11 251 yX4_has, Cond.instanceMethod yX4_has, Cond.selects RX4 yX4_has yX4_has, Cond.initialized RX4, Cond.fieldLink RX11 74 "WarpDesk" "finder" "LWarpDesk$Finder;", Cond.methodLink RX11 278 yX1_runSearch, Cond.instanceMethod yX1_runSearch, Cond.selects RX1 yX1_runSearch yX1_runSearch, Cond.initialized RX1, Cond.fieldLink RX11 281 "WarpDesk$Finder" "tally" "[I"]
def wz_k265_X11_search : List Cond := .code yX11_search cX11_search 3 (some .int) :: (wo_k265_X11_search ++ (wsX10 ++ (wsX110 ++ (wz_k155_X4_has ++ (wz_k266_X1_runSearch ++ ([] : List Cond))))))
theorem zg_k265_X11_search : ∀ w ∈ wz_k265_X11_search, goodWord w = true := zg_cons rfl (zg_app (by decide +kernel) (zg_app zgU_wsX10 (zg_app zgU_wsX110 (zg_app zg_k155_X4_has (zg_app zg_k266_X1_runSearch zg_nil)))))
theorem zi_k265_X11_search : ∀ w ∈ wz_k265_X11_search, w ∈ lw_tbl := zi_cons zw_1132 (zi_app (zi_cons zw_490 (zi_cons zw_1086 (zi_cons zw_747 (zi_cons zw_748 (zi_cons zw_108 (zi_cons zw_495 (zi_cons zw_1133 (zi_cons zw_1134 (zi_cons zw_1135 (zi_cons zw_113 (zi_cons zw_406 zi_nil))))))))))) (zi_app inX1 (zi_app inX11 (zi_app zi_k155_X4_has (zi_app zi_k266_X1_runSearch zi_nil)))))
set_option maxHeartbeats 4000000 in
set_option maxRecDepth 100000 in
theorem k265_X11_search (l : Launch) (D : va_G) (zt : Nat × Nat × Nat × (Nat → Nat) × (Nat → Nat)) (q : Nat → Nat) (d : Nat → ClassId) (I : Nat → Int32) (A : Nat → Nat → Int32) (z1 : Int32) (z2 : Int32) (hIv : IvX I A) : GM l D zt (tyX d) yX11_search wz_k265_X11_search ({ frames := 6, cells := 0, slots := 0, locals := 133 } : Room) [.ref (q 0), .int z1, .int z2] (wX q d I A) (fun v _ w' => ∃ (I' : Nat → Int32) (A' : Nat → Nat → Int32), Md [28, 30, 31, 32, 33, 34] I I' ∧ Md [21, 22, 23, 25] A A' ∧ IvX I' A' ∧ ∃ y0 : Int32, FE (fX11_search I A z1 z2) (y0, I', A') ∧ v = some (.int y0) ∧ w' = wX q d I' A') 0 0 := by
  refine GM.of (cc := cX11_search) (maxL := 3) (ret := (some .int)) (own := RX11) (lv := [(0, .ref (q 0)), (1, .int z1), (2, .int z2)]) (by decide) rfl rfl (Nat.le_of_ble_eq_true rfl) rfl (fun κ sz hk hR hN => ?_)
  have hin1 : ∀ w ∈ u_ws RX1 TX1 11, w ∈ wz_k265_X11_search := fun w h => (List.mem_cons_of_mem _ (List.mem_append_right _ (List.mem_append_left _ h)))
  have hin11 : ∀ w ∈ u_ws RX11 TX11 10, w ∈ wz_k265_X11_search := fun w h => (List.mem_cons_of_mem _ (List.mem_append_right _ (List.mem_append_right _ (List.mem_append_left _ h))))
  have hF : FE (fX11_search I A z1 z2) (fX11_search I A z1 z2) := FE.rf
  refine g_iload_n hk dX11_search_0 rfl ?_
  have b5720l := Int32.le_toInt z2
  have b5720h := Int32.toInt_lt z2
  refine g_if_lt (tgt := 21) (a := z2.toInt) hk dX11_search_1 (by decide) rfl (fun c5721 => ?_) (fun c5721 => ?_)
  · skip
    replace hF := FE.pos hF c5721
    refine g_iconst (v := (-1)) hk dX11_search_21 (by decide) ?_
    exact g_iret hk hR rfl ⟨I, A, (show Md [28, 30, 31, 32, 33, 34] I I from Md.rf), (show Md [21, 22, 23, 25] A A from Md.rf), hIv, (-1), hF, rfl, rfl⟩ dX11_search_22
  · skip
    replace hF := FE.neg hF c5721
    refine g_iload_n hk dX11_search_4 rfl ?_
    refine g_bipush (v := 9) hk dX11_search_5 (by decide) ?_
    refine g_icmp_ge (tgt := 21) (a := z2.toInt) (b := 9) hk dX11_search_7 (by decide) rfl rfl (fun c5722 => ?_) (fun c5722 => ?_)
    · skip
      replace hF := FE.pos hF c5722
      refine g_iconst (v := (-1)) hk dX11_search_21 (by decide) ?_
      exact g_iret hk hR rfl ⟨I, A, (show Md [28, 30, 31, 32, 33, 34] I I from Md.rf), (show Md [21, 22, 23, 25] A A from Md.rf), hIv, (-1), hF, rfl, rfl⟩ dX11_search_22
    · skip
      replace hF := FE.neg hF c5722
      refine g_aload_n hk dX11_search_10 rfl ?_
      refine gX_r0_3 hk hin11 (List.mem_cons_of_mem _ (List.mem_append_left _ (List.mem_of_getElem? (i := 0) rfl))) dX11_search_11 ?_
      refine g_iload_n hk dX11_search_14 rfl ?_
      refine g_callV (n := 1) hk (k168_X4_has l D zt q d I A z1 hIv) (SP.same _) (fun _ h => h) (gi_V (List.mem_cons_of_mem _ (List.mem_append_left _ (List.mem_of_getElem? (i := 1) rfl))) (List.mem_cons_of_mem _ (List.mem_append_left _ (List.mem_of_getElem? (i := 2) rfl))) (List.mem_cons_of_mem _ (List.mem_append_left _ (List.mem_of_getElem? (i := 3) rfl))) (List.mem_cons_of_mem _ (List.mem_append_left _ (List.mem_of_getElem? (i := 4) rfl))) (gi_sub (fun w h => (List.mem_cons_of_mem _ (List.mem_append_right _ (List.mem_append_right _ (List.mem_append_right _ (List.mem_append_left _ h)))))) zg_k155_X4_has)) rfl rfl rfl (by decide +kernel) ⟨Nat.le_of_ble_eq_true rfl, Nat.le_of_ble_eq_true rfl⟩ 15 rfl rfl rfl rfl (Nat.le_of_ble_eq_true rfl) ⟨Nat.le_of_ble_eq_true rfl, Nat.le_of_ble_eq_true rfl⟩ dX11_search_15 (fun v ty' w' hp hk' => ?_)
      rcases hp with ⟨hC, rfl, rfl⟩ | ⟨c5724, c5725, c5726, c5727, hC, rfl, rfl⟩
      · skip
        replace hF := FE.pos hF hC
        show GW κ 3 0 0 (wX q d I A) 18 [(0, .ref (q 0)), (1, .int z1), (2, .int z2)] [.int 0]
        refine g_if_ne (tgt := 23) (a := 0) hk dX11_search_18 (by decide) rfl (fun z9 => absurd z9 (show ¬ ((0 : Int) ≠ (0 : Int)) from by decide)) (fun _ => ?_)
        refine g_iconst (v := (-1)) hk dX11_search_21 (by decide) ?_
        exact g_iret hk hR rfl ⟨I, A, (show Md [28, 30, 31, 32, 33, 34] I I from Md.rf), (show Md [21, 22, 23, 25] A A from Md.rf), hIv, (-1), hF, rfl, rfl⟩ dX11_search_22
      · skip
        replace hF := FE.neg hF (fe_ne hC (by decide))
        show GW κ 3 0 0 (wX q d I A) 18 [(0, .ref (q 0)), (1, .int z1), (2, .int z2)] [.int 1]
        refine g_if_ne (tgt := 23) (a := 1) hk dX11_search_18 (by decide) rfl (fun _ => ?_) (fun z9 => absurd (show (1 : Int) ≠ (0 : Int) from by decide) z9)
        refine g_aload_n hk dX11_search_23 rfl ?_
        refine gX_r0_8 hk hin11 (List.mem_cons_of_mem _ (List.mem_append_left _ (List.mem_of_getElem? (i := 5) rfl))) dX11_search_24 ?_
        refine g_iload_n hk dX11_search_27 rfl ?_
        refine g_callV (n := 1) hk (k266_X1_runSearch l D zt q d I A z1 hIv) (SP.same _) (fun _ h => h) (gi_V (List.mem_cons_of_mem _ (List.mem_append_left _ (List.mem_of_getElem? (i := 6) rfl))) (List.mem_cons_of_mem _ (List.mem_append_left _ (List.mem_of_getElem? (i := 7) rfl))) (List.mem_cons_of_mem _ (List.mem_append_left _ (List.mem_of_getElem? (i := 8) rfl))) (List.mem_cons_of_mem _ (List.mem_append_left _ (List.mem_of_getElem? (i := 9) rfl))) (gi_sub (fun w h => (List.mem_cons_of_mem _ (List.mem_append_right _ (List.mem_append_right _ (List.mem_append_right _ (List.mem_append_right _ (List.mem_append_left _ h))))))) zg_k266_X1_runSearch)) rfl rfl rfl (by decide +kernel) ⟨Nat.le_of_ble_eq_true rfl, Nat.le_of_ble_eq_true rfl⟩ 43 rfl rfl rfl rfl (Nat.le_of_ble_eq_true rfl) ⟨Nat.le_of_ble_eq_true rfl, Nat.le_of_ble_eq_true rfl⟩ dX11_search_28 (fun v ty' w' hp hk' => ?_)
        obtain ⟨I6634, A6634, hI6634, hA6634, hV6634, hC, rfl, rfl⟩ := hp
        replace hF := FE.bdX hF hC
        show GW κ 3 0 0 (wX q d I6634 A6634) 31 [(0, .ref (q 0)), (1, .int z1), (2, .int z2)] []
        refine g_aload_n hk dX11_search_31 rfl ?_
        refine gX_r0_8 hk hin11 (List.mem_cons_of_mem _ (List.mem_append_left _ (List.mem_of_getElem? (i := 5) rfl))) dX11_search_32 ?_
        refine gX_r43_3 hk hin1 (List.mem_cons_of_mem _ (List.mem_append_left _ (List.mem_of_getElem? (i := 10) rfl))) dX11_search_35 ?_
        refine g_iload_n hk dX11_search_38 rfl ?_
        refine lX_25 (v := (A6634 25 z2.toNatClampNeg)) hk (vp_in_iff.mpr ⟨by omega, by omega⟩) rfl dX11_search_39 ?_
        have b6635l := Int32.le_toInt (A6634 25 z2.toNatClampNeg)
        have b6635h := Int32.toInt_lt (A6634 25 z2.toNatClampNeg)
        exact g_iret hk hR rfl ⟨I6634, A6634, (show Md [28, 30, 31, 32, 33, 34] I I6634 from (Md.tr Md.rf hI6634 rfl)), (show Md [21, 22, 23, 25] A A6634 from (Md.tr Md.rf hA6634 rfl)), hV6634, (A6634 25 z2.toNatClampNeg), hF, rfl, rfl⟩ dX11_search_40
