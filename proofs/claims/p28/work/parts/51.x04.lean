noncomputable def bX2_layRow_34 (y3827 : Int32) (y3821 : Int32) (I : Nat → Int32) (A : Nat → Nat → Int32) (z1 : Int32) : (Int32 → Int32 → (Nat → Int32) → (Nat → Nat → Int32) → (Int32 × (Nat → Int32) × (Nat → Nat → Int32))) → Int32 → Int32 → (Nat → Int32) → (Nat → Nat → Int32) → (Int32 × (Nat → Int32) × (Nat → Nat → Int32)) := fun kk3986 x3828 x3829 I3834 A3834 => if y3827.toInt < x3828.toInt then f_lt (y3827 - y3821) fun y3990 => f_lt (y3990 + (1 : Int32)) fun y3992 => f_lt ((I 33) + y3992) fun y3995 => (x3829, (upd I3834 33 y3995), A3834) else f_lt (fX2_costOf I3834 A3834 (A 21 z1.toNatClampNeg) (A 22 x3828.toNatClampNeg)) fun y3997 => if 0 < z1.toInt then f_lt (fX2_leastAhead I3834 A3834 z1 x3828) fun y3999 => f_lt (y3997 + y3999) fun y4002 => f_lt (z1 * (16 : Int32)) fun y4003 => f_lt (y4003 + x3828) fun y4004 => if x3829.toInt ≤ y4002.toInt then f_lt (x3828 + Int32.ofInt 1) fun y4008 => kk3986 y4008 x3829 I3834 (up3 A3834 23 (y4004.toNatClampNeg) y4002) else f_lt (x3828 + Int32.ofInt 1) fun y4009 => kk3986 y4009 y4002 I3834 (up3 A3834 23 (y4004.toNatClampNeg) y4002) else if x3828.toInt ≤ 0 then f_lt (z1 * (16 : Int32)) fun y4011 => f_lt (y4011 + x3828) fun y4012 => if x3829.toInt ≤ y3997.toInt then f_lt (x3828 + Int32.ofInt 1) fun y4016 => kk3986 y4016 x3829 I3834 (up3 A3834 23 (y4012.toNatClampNeg) y3997) else f_lt (x3828 + Int32.ofInt 1) fun y4017 => kk3986 y4017 y3997 I3834 (up3 A3834 23 (y4012.toNatClampNeg) y3997) else f_lt (fX2_leastAhead I3834 A3834 z1 x3828) fun y4018 => f_lt (y3997 + y4018) fun y4021 => f_lt (z1 * (16 : Int32)) fun y4022 => f_lt (y4022 + x3828) fun y4023 => if x3829.toInt ≤ y4021.toInt then f_lt (x3828 + Int32.ofInt 1) fun y4027 => kk3986 y4027 x3829 I3834 (up3 A3834 23 (y4023.toNatClampNeg) y4021) else f_lt (x3828 + Int32.ofInt 1) fun y4028 => kk3986 y4028 y4021 I3834 (up3 A3834 23 (y4023.toNatClampNeg) y4021)
noncomputable def fX2_layRow (I : Nat → Int32) (A : Nat → Nat → Int32) (z1 : Int32) : Int32 × (Nat → Int32) × (Nat → Nat → Int32) := f_lt (z1 - (I 31)) fun y3820 => f_lt (if (0 : Int32) < y3820 then y3820 else (0 : Int32)) fun y3821 => f_lt ((I 30) - (1 : Int32)) fun y3824 => f_lt (z1 + (I 31)) fun y3825 => f_lt (if y3825 < y3824 then y3825 else y3824) fun y3827 => itr_iiIA dfX (bX2_layRow_34 y3827 y3821 I A z1) FU y3821 2147483647 I A
def wo_k234_X2_layRow : List Cond := [Cond.fieldLink RX2 37 "WarpDesk$Fit" "band" "I", Cond.methodLink RX2 34 Lib.Math.max.name, Cond.static Lib.Math.max.name, Cond.initialized "java/lang/Math", Cond.code Lib.Math.max.name Lib.Math.max.code 2 (some .int), Cond.fieldLink RX2 24 "WarpDesk$Fit" "length" "I", Cond.methodLink RX2 28 Lib.Math.min.name, Cond.static Lib.Math.min.name, Cond.code Lib.Math.min.name Lib.Math.min.code 2 (some .int), Cond.constant RX2 93 (2147483647), Cond.fieldLink RX2 76 "WarpDesk$Fit" "cells" "I", Cond.fieldLink RX2 9 "WarpDesk$Fit" "left" "[I", Cond.fieldLink RX2 15 "WarpDesk$Fit" "right" "[I", Cond.methodLink RX2 65 yX2_costOf, Cond.instanceMethod yX2_costOf, Cond.selects RX2 yX2_costOf yX2_costOf, Cond.initialized RX2, Cond.methodLink RX2 98 yX2_leastAhead, Cond.instanceMethod yX2_leastAhead, Cond.selects RX2 yX2_leastAhead yX2_leastAhead, Cond.fieldLink RX2 18 "WarpDesk$Fit" "table" "[I"]
def wz_k234_X2_layRow : List Cond := .code yX2_layRow cX2_layRow 7 (some .int) :: (wo_k234_X2_layRow ++ (wsX20 ++ (wz_k235_X2_costOf ++ (wz_k236_X2_leastAhead ++ ([] : List Cond)))))
theorem zg_k234_X2_layRow : ∀ w ∈ wz_k234_X2_layRow, goodWord w = true := zg_cons rfl (zg_app (by decide +kernel) (zg_app zgU_wsX20 (zg_app zg_k235_X2_costOf (zg_app zg_k236_X2_leastAhead zg_nil))))
theorem zi_k234_X2_layRow : ∀ w ∈ wz_k234_X2_layRow, w ∈ lw_tbl := zi_cons zw_1004 (zi_app (zi_cons zw_344 (zi_cons zw_943 (zi_cons zw_920 (zi_cons zw_120 (zi_cons zw_921 (zi_cons zw_343 (zi_cons zw_942 (zi_cons zw_829 (zi_cons zw_830 (zi_cons zw_996 (zi_cons zw_347 (zi_cons zw_334 (zi_cons zw_337 (zi_cons zw_1005 (zi_cons zw_1007 (zi_cons zw_30 (zi_cons zw_112 (zi_cons zw_1009 (zi_cons zw_1011 (zi_cons zw_31 (zi_cons zw_339 zi_nil))))))))))))))))))))) (zi_app inX2 (zi_app zi_k235_X2_costOf (zi_app zi_k236_X2_leastAhead zi_nil))))
set_option maxHeartbeats 4000000 in
set_option maxRecDepth 100000 in
theorem k234_X2_layRow (l : Launch) (D : va_G) (zt : Nat × Nat × Nat × (Nat → Nat) × (Nat → Nat)) (q : Nat → Nat) (d : Nat → ClassId) (I : Nat → Int32) (A : Nat → Nat → Int32) (z1 : Int32) (hIv : IvX I A) (hp0 : 0 ≤ z1.toInt) (hp1 : z1.toInt ≤ 15) : GM l D zt (tyX d) yX2_layRow wz_k234_X2_layRow ({ frames := 1, cells := 0, slots := 0, locals := 24 } : Room) [.ref (q 38), .int z1] (wX q d I A) (fun v _ w' => ∃ (I' : Nat → Int32) (A' : Nat → Nat → Int32), Md [33] I I' ∧ Md [23] A A' ∧ IvX I' A' ∧ ∃ y0 : Int32, FE (fX2_layRow I A z1) (y0, I', A') ∧ v = some (.int y0) ∧ w' = wX q d I' A') 0 0 := by
  refine GM.of (cc := cX2_layRow) (maxL := 7) (ret := (some .int)) (own := RX2) (lv := [(0, .ref (q 38)), (1, .int z1)]) (by decide) rfl rfl (Nat.le_of_ble_eq_true rfl) rfl (fun κ sz hk hR hN => ?_)
  have hin2 : ∀ w ∈ u_ws RX2 TX2 10, w ∈ wz_k234_X2_layRow := fun w h => (List.mem_cons_of_mem _ (List.mem_append_right _ (List.mem_append_left _ h)))
  have hF : FE (fX2_layRow I A z1) (fX2_layRow I A z1) := FE.rf
  refine g_iconst (v := 0) hk dX2_layRow_0 (by decide) ?_
  refine g_iload_n hk dX2_layRow_1 rfl ?_
  refine g_aload_n hk dX2_layRow_2 rfl ?_
  refine gX_i31 (v := (I 31)) hk hin2 (List.mem_cons_of_mem _ (List.mem_append_left _ (List.mem_of_getElem? (i := 0) rfl))) dX2_layRow_3 rfl ?_
  have f3818 := IvX_f31 hIv
  have b3819l := Int32.le_toInt (I 31)
  have b3819h := Int32.toInt_lt (I 31)
  refine g_isub hk dX2_layRow_6 ?_
  refine g_topi (fun y3820 ey3820 => ?_)
  replace hF := FE.lt hF ey3820
  have hy3820 : y3820.toInt = z1.toInt - (I 31).toInt := i32_sub ey3820 rfl rfl (by omega) (by omega)
  refine g_mmax hk (List.mem_cons_of_mem _ (List.mem_append_left _ (List.mem_of_getElem? (i := 1) rfl))) (List.mem_cons_of_mem _ (List.mem_append_left _ (List.mem_of_getElem? (i := 2) rfl))) (List.mem_cons_of_mem _ (List.mem_append_left _ (List.mem_of_getElem? (i := 3) rfl))) (List.mem_cons_of_mem _ (List.mem_append_left _ (List.mem_of_getElem? (i := 4) rfl))) (Nat.le_of_ble_eq_true rfl) (Nat.le_of_ble_eq_true rfl) (Nat.le_of_ble_eq_true rfl) (Nat.le_of_ble_eq_true rfl) dX2_layRow_7 ?_
  refine g_topi (fun y3821 ey3821 => ?_)
  replace hF := FE.lt hF ey3821
  have k3822 : (0 : Int32).toInt = 0 := rfl
  have hy3821 := i32_max ey3821
  refine g_istore_n (lv' := [(2, .int y3821), (0, .ref (q 38)), (1, .int z1)]) hk dX2_layRow_10 (by decide) rfl ?_
  refine g_aload_n hk dX2_layRow_11 rfl ?_
  refine gX_i30 (v := (I 30)) hk hin2 (List.mem_cons_of_mem _ (List.mem_append_left _ (List.mem_of_getElem? (i := 5) rfl))) dX2_layRow_12 rfl ?_
  have f3823 := IvX_f30 hIv
  refine g_iconst (v := 1) hk dX2_layRow_15 (by decide) ?_
  refine g_isub hk dX2_layRow_16 ?_
  refine g_topi (fun y3824 ey3824 => ?_)
  replace hF := FE.lt hF ey3824
  have hy3824 : y3824.toInt = (I 30).toInt - 1 := i32_sub ey3824 rfl rfl (by omega) (by omega)
  refine g_iload_n hk dX2_layRow_17 rfl ?_
  refine g_aload_n hk dX2_layRow_18 rfl ?_
  refine gX_i31 (v := (I 31)) hk hin2 (List.mem_cons_of_mem _ (List.mem_append_left _ (List.mem_of_getElem? (i := 0) rfl))) dX2_layRow_19 rfl ?_
  refine g_iadd hk dX2_layRow_22 ?_
  refine g_topi (fun y3825 ey3825 => ?_)
  replace hF := FE.lt hF ey3825
  have b3826l := Int32.le_toInt y3825
  have b3826h := Int32.toInt_lt y3825
  refine g_mmin hk (List.mem_cons_of_mem _ (List.mem_append_left _ (List.mem_of_getElem? (i := 6) rfl))) (List.mem_cons_of_mem _ (List.mem_append_left _ (List.mem_of_getElem? (i := 7) rfl))) (List.mem_cons_of_mem _ (List.mem_append_left _ (List.mem_of_getElem? (i := 3) rfl))) (List.mem_cons_of_mem _ (List.mem_append_left _ (List.mem_of_getElem? (i := 8) rfl))) (Nat.le_of_ble_eq_true rfl) (Nat.le_of_ble_eq_true rfl) (Nat.le_of_ble_eq_true rfl) (Nat.le_of_ble_eq_true rfl) dX2_layRow_23 ?_
  refine g_topi (fun y3827 ey3827 => ?_)
  replace hF := FE.lt hF ey3827
  have hy3827 := i32_min ey3827
  refine g_istore_n (lv' := [(3, .int y3827), (2, .int y3821), (0, .ref (q 38)), (1, .int z1)]) hk dX2_layRow_26 (by decide) rfl ?_
  refine g_ldc (v := 2147483647) hk (List.mem_cons_of_mem _ (List.mem_append_left _ (List.mem_of_getElem? (i := 9) rfl))) dX2_layRow_27 ?_
  refine g_istore (lv' := [(4, .int 2147483647), (3, .int y3827), (2, .int y3821), (0, .ref (q 38)), (1, .int z1)]) hk dX2_layRow_29 (by decide) rfl ?_
  refine g_iload_n hk dX2_layRow_31 rfl ?_
  refine g_istore (lv' := [(5, .int y3821), (4, .int 2147483647), (3, .int y3827), (2, .int y3821), (0, .ref (q 38)), (1, .int z1)]) hk dX2_layRow_32 (by decide) rfl ?_
  have lp3983 : ∀ (n3984 : Nat) (x3828 : Int32) (x3829 : Int32) (I3834 : Nat → Int32) (A3834 : Nat → Nat → Int32), (Md [] I I3834) → (Md [23] A A3834) → (IvX I3834 A3834) → (0 ≤ x3828.toInt) → (x3828.toInt ≤ 16) → (16 - x3828.toInt < (n3984 : Int)) → (0 < n3984) → (FE (fX2_layRow I A z1) (itr_iiIA dfX (bX2_layRow_34 y3827 y3821 I A z1) n3984 x3828 x3829 I3834 A3834)) → GW κ 7 0 0 (wX q d I3834 A3834) 34 [(5, .int x3828), (4, .int x3829), (3, .int y3827), (2, .int y3821), (0, .ref (q 38)), (1, .int z1)] [] := by
    intro n3984
    induction n3984 with
    | zero =>
      intro x3828 x3829 I3834 A3834 hI3834 hA3834 hV3834 h3981 h3982 m3985 m3985z hF
      exact absurd m3985z (Nat.lt_irrefl 0)
    | succ n3984 ih3987 =>
      intro x3828 x3829 I3834 A3834 hI3834 hA3834 hV3834 h3981 h3982 m3985 m3985z hF
      replace hF := FE.itr_iiIA hF
      refine g_iload hk dX2_layRow_34 rfl ?_
      refine g_iload_n hk dX2_layRow_36 rfl ?_
      have b3988l := Int32.le_toInt y3827
      have b3988h := Int32.toInt_lt y3827
      refine g_icmp_gt (tgt := 111) (a := x3828.toInt) (b := y3827.toInt) hk dX2_layRow_37 (by decide) rfl rfl (fun c3989 => ?_) (fun c3989 => ?_)
      · skip
        replace hF := FE.pos hF c3989
        refine g_aload_n hk dX2_layRow_111 rfl ?_
        refine g_dup hk dX2_layRow_112 rfl ?_
        refine gX_i33 (v := (I 33)) hk hin2 (List.mem_cons_of_mem _ (List.mem_append_left _ (List.mem_of_getElem? (i := 10) rfl))) dX2_layRow_113 (hI3834 33 rfl) ?_
        refine g_iload_n hk dX2_layRow_116 rfl ?_
        refine g_iload_n hk dX2_layRow_117 rfl ?_
        refine g_isub hk dX2_layRow_118 ?_
        refine g_topi (fun y3990 ey3990 => ?_)
        replace hF := FE.lt hF ey3990
        have hy3990 := i32_sub0 ey3990
        refine g_iconst (v := 1) hk dX2_layRow_119 (by decide) ?_
        have b3991l := Int32.le_toInt y3990
        have b3991h := Int32.toInt_lt y3990
        refine g_iadd hk dX2_layRow_120 ?_
        refine g_topi (fun y3992 ey3992 => ?_)
        replace hF := FE.lt hF ey3992
        have b3993l := Int32.le_toInt (I 33)
        have b3993h := Int32.toInt_lt (I 33)
        have b3994l := Int32.le_toInt y3992
        have b3994h := Int32.toInt_lt y3992
        refine g_iadd hk dX2_layRow_121 ?_
        refine g_topi (fun y3995 ey3995 => ?_)
        replace hF := FE.lt hF ey3995
        refine pX_i33 hk hin2 (List.mem_cons_of_mem _ (List.mem_append_left _ (List.mem_of_getElem? (i := 10) rfl))) dX2_layRow_122 ?_
        refine g_iload hk dX2_layRow_125 rfl ?_
        have b3996l := Int32.le_toInt x3829
        have b3996h := Int32.toInt_lt x3829
        exact g_iret hk hR rfl ⟨(upd I3834 33 y3995), A3834, (show Md [33] I (upd I3834 33 y3995) from (Md.up (Md.tr Md.rf hI3834 rfl) rfl)), (show Md [23] A A3834 from (Md.tr Md.rf hA3834 rfl)), ⟨(IvX_f0 (I := I3834) (A := A3834) hV3834), (IvX_f18 (I := I3834) (A := A3834) hV3834), (IvX_f30 (I := I3834) (A := A3834) hV3834), (IvX_f31 (I := I3834) (A := A3834) hV3834), (IvX_a4 (I := I3834) (A := A3834) hV3834), (IvX_a9 (I := I3834) (A := A3834) hV3834), trivial⟩, x3829, hF, rfl, rfl⟩ dX2_layRow_127
      · skip
        replace hF := FE.neg hF c3989
        refine g_aload_n hk dX2_layRow_40 rfl ?_
        refine g_aload_n hk dX2_layRow_41 rfl ?_
        refine gX_r38_0 hk hin2 (List.mem_cons_of_mem _ (List.mem_append_left _ (List.mem_of_getElem? (i := 11) rfl))) dX2_layRow_42 ?_
        refine g_iload_n hk dX2_layRow_45 rfl ?_
        refine lX_21 (v := (A 21 z1.toNatClampNeg)) hk (vp_in_iff.mpr ⟨by omega, by omega⟩) (congrFun (hA3834 21 rfl) _) dX2_layRow_46 ?_
        refine g_aload_n hk dX2_layRow_47 rfl ?_
        refine gX_r38_1 hk hin2 (List.mem_cons_of_mem _ (List.mem_append_left _ (List.mem_of_getElem? (i := 12) rfl))) dX2_layRow_48 ?_
        refine g_iload hk dX2_layRow_51 rfl ?_
        refine lX_22 (v := (A 22 x3828.toNatClampNeg)) hk (vp_in_iff.mpr ⟨by omega, by omega⟩) (congrFun (hA3834 22 rfl) _) dX2_layRow_53 ?_
        refine g_callV (n := 2) hk (k235_X2_costOf l D zt q d I3834 A3834 (A 21 z1.toNatClampNeg) (A 22 x3828.toNatClampNeg) hV3834) (SP.same _) (fun _ h => h) (gi_V (List.mem_cons_of_mem _ (List.mem_append_left _ (List.mem_of_getElem? (i := 13) rfl))) (List.mem_cons_of_mem _ (List.mem_append_left _ (List.mem_of_getElem? (i := 14) rfl))) (List.mem_cons_of_mem _ (List.mem_append_left _ (List.mem_of_getElem? (i := 15) rfl))) (List.mem_cons_of_mem _ (List.mem_append_left _ (List.mem_of_getElem? (i := 16) rfl))) (gi_sub (fun w h => (List.mem_cons_of_mem _ (List.mem_append_right _ (List.mem_append_right _ (List.mem_append_left _ h))))) zg_k235_X2_costOf)) rfl rfl rfl (by decide +kernel) ⟨Nat.le_of_ble_eq_true rfl, Nat.le_of_ble_eq_true rfl⟩ 38 rfl rfl rfl rfl (Nat.le_of_ble_eq_true rfl) ⟨Nat.le_of_ble_eq_true rfl, Nat.le_of_ble_eq_true rfl⟩ dX2_layRow_54 (fun v ty' w' hp hk' => ?_)
        obtain ⟨y3997, hC, rfl, rfl⟩ := hp
        replace hF := FE.lt hF (fe_s hC)
        show GW κ 7 0 0 (wX q d I3834 A3834) 57 [(5, .int x3828), (4, .int x3829), (3, .int y3827), (2, .int y3821), (0, .ref (q 38)), (1, .int z1)] [.int y3997]
        refine g_istore (lv' := [(6, .int y3997), (5, .int x3828), (4, .int x3829), (3, .int y3827), (2, .int y3821), (0, .ref (q 38)), (1, .int z1)]) hk dX2_layRow_57 (by decide) rfl ?_
        refine g_iload_n hk dX2_layRow_59 rfl ?_
        refine g_if_gt (tgt := 68) (a := z1.toInt) hk dX2_layRow_60 (by decide) rfl (fun c3998 => ?_) (fun c3998 => ?_)
        · skip
          replace hF := FE.pos hF c3998
          refine g_iload hk dX2_layRow_68 rfl ?_
          refine g_aload_n hk dX2_layRow_70 rfl ?_
          refine g_iload_n hk dX2_layRow_71 rfl ?_
          refine g_iload hk dX2_layRow_72 rfl ?_
          refine g_callV (n := 2) hk (k236_X2_leastAhead l D zt q d I3834 A3834 z1 x3828 hV3834 (by omega) (by omega) (by omega) (by omega)) (SP.same _) (fun _ h => h) (gi_V (List.mem_cons_of_mem _ (List.mem_append_left _ (List.mem_of_getElem? (i := 17) rfl))) (List.mem_cons_of_mem _ (List.mem_append_left _ (List.mem_of_getElem? (i := 18) rfl))) (List.mem_cons_of_mem _ (List.mem_append_left _ (List.mem_of_getElem? (i := 19) rfl))) (List.mem_cons_of_mem _ (List.mem_append_left _ (List.mem_of_getElem? (i := 16) rfl))) (gi_sub (fun w h => (List.mem_cons_of_mem _ (List.mem_append_right _ (List.mem_append_right _ (List.mem_append_right _ (List.mem_append_left _ h)))))) zg_k236_X2_leastAhead)) rfl rfl rfl (by decide +kernel) ⟨Nat.le_of_ble_eq_true rfl, Nat.le_of_ble_eq_true rfl⟩ 38 rfl rfl rfl rfl (Nat.le_of_ble_eq_true rfl) ⟨Nat.le_of_ble_eq_true rfl, Nat.le_of_ble_eq_true rfl⟩ dX2_layRow_74 (fun v ty' w' hp hk' => ?_)
          obtain ⟨y3999, hC, rfl, rfl⟩ := hp
          replace hF := FE.lt hF (fe_s hC)
          show GW κ 7 0 0 (wX q d I3834 A3834) 77 [(6, .int y3997), (5, .int x3828), (4, .int x3829), (3, .int y3827), (2, .int y3821), (0, .ref (q 38)), (1, .int z1)] [.int y3999, .int y3997]
          have b4000l := Int32.le_toInt y3997
          have b4000h := Int32.toInt_lt y3997
          have b4001l := Int32.le_toInt y3999
          have b4001h := Int32.toInt_lt y3999
          refine g_iadd hk dX2_layRow_77 ?_
          refine g_topi (fun y4002 ey4002 => ?_)
          replace hF := FE.lt hF ey4002
          refine g_istore (lv' := [(6, .int y4002), (5, .int x3828), (4, .int x3829), (3, .int y3827), (2, .int y3821), (0, .ref (q 38)), (1, .int z1)]) hk dX2_layRow_78 (by decide) rfl ?_
          refine g_aload_n hk dX2_layRow_80 rfl ?_
          refine gX_r38_2 hk hin2 (List.mem_cons_of_mem _ (List.mem_append_left _ (List.mem_of_getElem? (i := 20) rfl))) dX2_layRow_81 ?_
          refine g_iload_n hk dX2_layRow_84 rfl ?_
          refine g_bipush (v := 16) hk dX2_layRow_85 (by decide) ?_
          refine g_imul hk dX2_layRow_87 ?_
          refine g_topi (fun y4003 ey4003 => ?_)
          replace hF := FE.lt hF ey4003
          have hy4003 : y4003.toInt = z1.toInt * 16 := i32_mul ey4003 rfl rfl (by omega) (by omega)
          refine g_iload hk dX2_layRow_88 rfl ?_
          refine g_iadd hk dX2_layRow_90 ?_
          refine g_topi (fun y4004 ey4004 => ?_)
          replace hF := FE.lt hF ey4004
          have hy4004 : y4004.toInt = y4003.toInt + x3828.toInt := i32_add ey4004 rfl rfl (by omega) (by omega)
          refine g_iload hk dX2_layRow_91 rfl ?_
          refine sX_23 (j := y4004.toNatClampNeg) hk (vp_in_iff.mpr ⟨by omega, by omega⟩) rfl dX2_layRow_93 ?_
          refine g_iload hk dX2_layRow_94 rfl ?_
          refine g_iload hk dX2_layRow_96 rfl ?_
          have b4005l := Int32.le_toInt y4002
          have b4005h := Int32.toInt_lt y4002
          have b4006l := Int32.le_toInt x3829
          have b4006h := Int32.toInt_lt x3829
          refine g_icmp_ge (tgt := 105) (a := y4002.toInt) (b := x3829.toInt) hk dX2_layRow_98 (by decide) rfl rfl (fun c4007 => ?_) (fun c4007 => ?_)
          · skip
            replace hF := FE.pos hF c4007
            obtain ⟨y4008, ey4008⟩ : ∃ y : Int32, y = x3828 + Int32.ofInt 1 := ⟨_, rfl⟩
            replace hF := FE.lt hF ey4008
            have hy4008 : y4008.toInt = x3828.toInt + 1 := i32_add ey4008 rfl (by decide) (by omega) (by omega)
            refine g_iinc (v := y4008) (lv' := [(5, .int y4008), (6, .int y4002), (4, .int x3829), (3, .int y3827), (2, .int y3821), (0, .ref (q 38)), (1, .int z1)]) hk 1 dX2_layRow_105 rfl ey4008.symm (by decide) rfl ?_
            refine g_goto (tgt := 34) hk dX2_layRow_108 (by decide) ?_
            exact g_lv (List.forall_mem_cons.mpr ⟨List.mem_of_getElem? (i := 0) rfl, (List.forall_mem_cons.mpr ⟨List.mem_of_getElem? (i := 2) rfl, (List.forall_mem_cons.mpr ⟨List.mem_of_getElem? (i := 3) rfl, (List.forall_mem_cons.mpr ⟨List.mem_of_getElem? (i := 4) rfl, (List.forall_mem_cons.mpr ⟨List.mem_of_getElem? (i := 5) rfl, (List.forall_mem_cons.mpr ⟨List.mem_of_getElem? (i := 6) rfl, (fun _ h => absurd h List.not_mem_nil)⟩)⟩)⟩)⟩)⟩)⟩) (ih3987 y4008 x3829 I3834 (up3 A3834 23 (y4004.toNatClampNeg) y4002) (show Md [] I I3834 from Md.tr hI3834 (show Md [] I3834 I3834 from Md.rf) rfl) (show Md [23] A (up3 A3834 23 (y4004.toNatClampNeg) y4002) from Md.tr hA3834 (show Md [23] A3834 (up3 A3834 23 (y4004.toNatClampNeg) y4002) from (Md.up3 Md.rf rfl)) rfl) ⟨(IvX_f0 (I := I3834) (A := A3834) hV3834), (IvX_f18 (I := I3834) (A := A3834) hV3834), (IvX_f30 (I := I3834) (A := A3834) hV3834), (IvX_f31 (I := I3834) (A := A3834) hV3834), (IvX_a4 (I := I3834) (A := A3834) hV3834), (IvX_a9 (I := I3834) (A := A3834) hV3834), trivial⟩ (by omega) (by omega) (by omega) (by omega) hF)
          · skip
            replace hF := FE.neg hF c4007
            refine g_iload hk dX2_layRow_101 rfl ?_
            refine g_istore (lv' := [(4, .int y4002), (6, .int y4002), (5, .int x3828), (3, .int y3827), (2, .int y3821), (0, .ref (q 38)), (1, .int z1)]) hk dX2_layRow_103 (by decide) rfl ?_
            obtain ⟨y4009, ey4009⟩ : ∃ y : Int32, y = x3828 + Int32.ofInt 1 := ⟨_, rfl⟩
            replace hF := FE.lt hF ey4009
            have hy4009 : y4009.toInt = x3828.toInt + 1 := i32_add ey4009 rfl (by decide) (by omega) (by omega)
            refine g_iinc (v := y4009) (lv' := [(5, .int y4009), (4, .int y4002), (6, .int y4002), (3, .int y3827), (2, .int y3821), (0, .ref (q 38)), (1, .int z1)]) hk 2 dX2_layRow_105 rfl ey4009.symm (by decide) rfl ?_
            refine g_goto (tgt := 34) hk dX2_layRow_108 (by decide) ?_
            exact g_lv (List.forall_mem_cons.mpr ⟨List.mem_of_getElem? (i := 0) rfl, (List.forall_mem_cons.mpr ⟨List.mem_of_getElem? (i := 1) rfl, (List.forall_mem_cons.mpr ⟨List.mem_of_getElem? (i := 3) rfl, (List.forall_mem_cons.mpr ⟨List.mem_of_getElem? (i := 4) rfl, (List.forall_mem_cons.mpr ⟨List.mem_of_getElem? (i := 5) rfl, (List.forall_mem_cons.mpr ⟨List.mem_of_getElem? (i := 6) rfl, (fun _ h => absurd h List.not_mem_nil)⟩)⟩)⟩)⟩)⟩)⟩) (ih3987 y4009 y4002 I3834 (up3 A3834 23 (y4004.toNatClampNeg) y4002) (show Md [] I I3834 from Md.tr hI3834 (show Md [] I3834 I3834 from Md.rf) rfl) (show Md [23] A (up3 A3834 23 (y4004.toNatClampNeg) y4002) from Md.tr hA3834 (show Md [23] A3834 (up3 A3834 23 (y4004.toNatClampNeg) y4002) from (Md.up3 Md.rf rfl)) rfl) ⟨(IvX_f0 (I := I3834) (A := A3834) hV3834), (IvX_f18 (I := I3834) (A := A3834) hV3834), (IvX_f30 (I := I3834) (A := A3834) hV3834), (IvX_f31 (I := I3834) (A := A3834) hV3834), (IvX_a4 (I := I3834) (A := A3834) hV3834), (IvX_a9 (I := I3834) (A := A3834) hV3834), trivial⟩ (by omega) (by omega) (by omega) (by omega) hF)
        · skip
          replace hF := FE.neg hF c3998
          refine g_iload hk dX2_layRow_63 rfl ?_
          refine g_if_le (tgt := 80) (a := x3828.toInt) hk dX2_layRow_65 (by decide) rfl (fun c4010 => ?_) (fun c4010 => ?_)
          · skip
            replace hF := FE.pos hF c4010
            refine g_aload_n hk dX2_layRow_80 rfl ?_
            refine gX_r38_2 hk hin2 (List.mem_cons_of_mem _ (List.mem_append_left _ (List.mem_of_getElem? (i := 20) rfl))) dX2_layRow_81 ?_
            refine g_iload_n hk dX2_layRow_84 rfl ?_
            refine g_bipush (v := 16) hk dX2_layRow_85 (by decide) ?_
            refine g_imul hk dX2_layRow_87 ?_
            refine g_topi (fun y4011 ey4011 => ?_)
            replace hF := FE.lt hF ey4011
            have hy4011 : y4011.toInt = z1.toInt * 16 := i32_mul ey4011 rfl rfl (by omega) (by omega)
            refine g_iload hk dX2_layRow_88 rfl ?_
            refine g_iadd hk dX2_layRow_90 ?_
            refine g_topi (fun y4012 ey4012 => ?_)
            replace hF := FE.lt hF ey4012
            have hy4012 : y4012.toInt = y4011.toInt + x3828.toInt := i32_add ey4012 rfl rfl (by omega) (by omega)
            refine g_iload hk dX2_layRow_91 rfl ?_
            refine sX_23 (j := y4012.toNatClampNeg) hk (vp_in_iff.mpr ⟨by omega, by omega⟩) rfl dX2_layRow_93 ?_
            refine g_iload hk dX2_layRow_94 rfl ?_
            refine g_iload hk dX2_layRow_96 rfl ?_
            have b4013l := Int32.le_toInt y3997
            have b4013h := Int32.toInt_lt y3997
            have b4014l := Int32.le_toInt x3829
            have b4014h := Int32.toInt_lt x3829
            refine g_icmp_ge (tgt := 105) (a := y3997.toInt) (b := x3829.toInt) hk dX2_layRow_98 (by decide) rfl rfl (fun c4015 => ?_) (fun c4015 => ?_)
            · skip
              replace hF := FE.pos hF c4015
              obtain ⟨y4016, ey4016⟩ : ∃ y : Int32, y = x3828 + Int32.ofInt 1 := ⟨_, rfl⟩
              replace hF := FE.lt hF ey4016
              have hy4016 : y4016.toInt = x3828.toInt + 1 := i32_add ey4016 rfl (by decide) (by omega) (by omega)
              refine g_iinc (v := y4016) (lv' := [(5, .int y4016), (6, .int y3997), (4, .int x3829), (3, .int y3827), (2, .int y3821), (0, .ref (q 38)), (1, .int z1)]) hk 1 dX2_layRow_105 rfl ey4016.symm (by decide) rfl ?_
              refine g_goto (tgt := 34) hk dX2_layRow_108 (by decide) ?_
              exact g_lv (List.forall_mem_cons.mpr ⟨List.mem_of_getElem? (i := 0) rfl, (List.forall_mem_cons.mpr ⟨List.mem_of_getElem? (i := 2) rfl, (List.forall_mem_cons.mpr ⟨List.mem_of_getElem? (i := 3) rfl, (List.forall_mem_cons.mpr ⟨List.mem_of_getElem? (i := 4) rfl, (List.forall_mem_cons.mpr ⟨List.mem_of_getElem? (i := 5) rfl, (List.forall_mem_cons.mpr ⟨List.mem_of_getElem? (i := 6) rfl, (fun _ h => absurd h List.not_mem_nil)⟩)⟩)⟩)⟩)⟩)⟩) (ih3987 y4016 x3829 I3834 (up3 A3834 23 (y4012.toNatClampNeg) y3997) (show Md [] I I3834 from Md.tr hI3834 (show Md [] I3834 I3834 from Md.rf) rfl) (show Md [23] A (up3 A3834 23 (y4012.toNatClampNeg) y3997) from Md.tr hA3834 (show Md [23] A3834 (up3 A3834 23 (y4012.toNatClampNeg) y3997) from (Md.up3 Md.rf rfl)) rfl) ⟨(IvX_f0 (I := I3834) (A := A3834) hV3834), (IvX_f18 (I := I3834) (A := A3834) hV3834), (IvX_f30 (I := I3834) (A := A3834) hV3834), (IvX_f31 (I := I3834) (A := A3834) hV3834), (IvX_a4 (I := I3834) (A := A3834) hV3834), (IvX_a9 (I := I3834) (A := A3834) hV3834), trivial⟩ (by omega) (by omega) (by omega) (by omega) hF)
            · skip
              replace hF := FE.neg hF c4015
              refine g_iload hk dX2_layRow_101 rfl ?_
              refine g_istore (lv' := [(4, .int y3997), (6, .int y3997), (5, .int x3828), (3, .int y3827), (2, .int y3821), (0, .ref (q 38)), (1, .int z1)]) hk dX2_layRow_103 (by decide) rfl ?_
              obtain ⟨y4017, ey4017⟩ : ∃ y : Int32, y = x3828 + Int32.ofInt 1 := ⟨_, rfl⟩
              replace hF := FE.lt hF ey4017
              have hy4017 : y4017.toInt = x3828.toInt + 1 := i32_add ey4017 rfl (by decide) (by omega) (by omega)
              refine g_iinc (v := y4017) (lv' := [(5, .int y4017), (4, .int y3997), (6, .int y3997), (3, .int y3827), (2, .int y3821), (0, .ref (q 38)), (1, .int z1)]) hk 2 dX2_layRow_105 rfl ey4017.symm (by decide) rfl ?_
              refine g_goto (tgt := 34) hk dX2_layRow_108 (by decide) ?_
              exact g_lv (List.forall_mem_cons.mpr ⟨List.mem_of_getElem? (i := 0) rfl, (List.forall_mem_cons.mpr ⟨List.mem_of_getElem? (i := 1) rfl, (List.forall_mem_cons.mpr ⟨List.mem_of_getElem? (i := 3) rfl, (List.forall_mem_cons.mpr ⟨List.mem_of_getElem? (i := 4) rfl, (List.forall_mem_cons.mpr ⟨List.mem_of_getElem? (i := 5) rfl, (List.forall_mem_cons.mpr ⟨List.mem_of_getElem? (i := 6) rfl, (fun _ h => absurd h List.not_mem_nil)⟩)⟩)⟩)⟩)⟩)⟩) (ih3987 y4017 y3997 I3834 (up3 A3834 23 (y4012.toNatClampNeg) y3997) (show Md [] I I3834 from Md.tr hI3834 (show Md [] I3834 I3834 from Md.rf) rfl) (show Md [23] A (up3 A3834 23 (y4012.toNatClampNeg) y3997) from Md.tr hA3834 (show Md [23] A3834 (up3 A3834 23 (y4012.toNatClampNeg) y3997) from (Md.up3 Md.rf rfl)) rfl) ⟨(IvX_f0 (I := I3834) (A := A3834) hV3834), (IvX_f18 (I := I3834) (A := A3834) hV3834), (IvX_f30 (I := I3834) (A := A3834) hV3834), (IvX_f31 (I := I3834) (A := A3834) hV3834), (IvX_a4 (I := I3834) (A := A3834) hV3834), (IvX_a9 (I := I3834) (A := A3834) hV3834), trivial⟩ (by omega) (by omega) (by omega) (by omega) hF)
          · skip
            replace hF := FE.neg hF c4010
            refine g_iload hk dX2_layRow_68 rfl ?_
            refine g_aload_n hk dX2_layRow_70 rfl ?_
            refine g_iload_n hk dX2_layRow_71 rfl ?_
            refine g_iload hk dX2_layRow_72 rfl ?_
            refine g_callV (n := 2) hk (k236_X2_leastAhead l D zt q d I3834 A3834 z1 x3828 hV3834 (by omega) (by omega) (by omega) (by omega)) (SP.same _) (fun _ h => h) (gi_V (List.mem_cons_of_mem _ (List.mem_append_left _ (List.mem_of_getElem? (i := 17) rfl))) (List.mem_cons_of_mem _ (List.mem_append_left _ (List.mem_of_getElem? (i := 18) rfl))) (List.mem_cons_of_mem _ (List.mem_append_left _ (List.mem_of_getElem? (i := 19) rfl))) (List.mem_cons_of_mem _ (List.mem_append_left _ (List.mem_of_getElem? (i := 16) rfl))) (gi_sub (fun w h => (List.mem_cons_of_mem _ (List.mem_append_right _ (List.mem_append_right _ (List.mem_append_right _ (List.mem_append_left _ h)))))) zg_k236_X2_leastAhead)) rfl rfl rfl (by decide +kernel) ⟨Nat.le_of_ble_eq_true rfl, Nat.le_of_ble_eq_true rfl⟩ 38 rfl rfl rfl rfl (Nat.le_of_ble_eq_true rfl) ⟨Nat.le_of_ble_eq_true rfl, Nat.le_of_ble_eq_true rfl⟩ dX2_layRow_74 (fun v ty' w' hp hk' => ?_)
            obtain ⟨y4018, hC, rfl, rfl⟩ := hp
            replace hF := FE.lt hF (fe_s hC)
            show GW κ 7 0 0 (wX q d I3834 A3834) 77 [(6, .int y3997), (5, .int x3828), (4, .int x3829), (3, .int y3827), (2, .int y3821), (0, .ref (q 38)), (1, .int z1)] [.int y4018, .int y3997]
            have b4019l := Int32.le_toInt y3997
            have b4019h := Int32.toInt_lt y3997
            have b4020l := Int32.le_toInt y4018
            have b4020h := Int32.toInt_lt y4018
            refine g_iadd hk dX2_layRow_77 ?_
            refine g_topi (fun y4021 ey4021 => ?_)
            replace hF := FE.lt hF ey4021
            refine g_istore (lv' := [(6, .int y4021), (5, .int x3828), (4, .int x3829), (3, .int y3827), (2, .int y3821), (0, .ref (q 38)), (1, .int z1)]) hk dX2_layRow_78 (by decide) rfl ?_
            refine g_aload_n hk dX2_layRow_80 rfl ?_
            refine gX_r38_2 hk hin2 (List.mem_cons_of_mem _ (List.mem_append_left _ (List.mem_of_getElem? (i := 20) rfl))) dX2_layRow_81 ?_
            refine g_iload_n hk dX2_layRow_84 rfl ?_
            refine g_bipush (v := 16) hk dX2_layRow_85 (by decide) ?_
            refine g_imul hk dX2_layRow_87 ?_
            refine g_topi (fun y4022 ey4022 => ?_)
            replace hF := FE.lt hF ey4022
            have hy4022 : y4022.toInt = z1.toInt * 16 := i32_mul ey4022 rfl rfl (by omega) (by omega)
            refine g_iload hk dX2_layRow_88 rfl ?_
            refine g_iadd hk dX2_layRow_90 ?_
            refine g_topi (fun y4023 ey4023 => ?_)
            replace hF := FE.lt hF ey4023
            have hy4023 : y4023.toInt = y4022.toInt + x3828.toInt := i32_add ey4023 rfl rfl (by omega) (by omega)
            refine g_iload hk dX2_layRow_91 rfl ?_
            refine sX_23 (j := y4023.toNatClampNeg) hk (vp_in_iff.mpr ⟨by omega, by omega⟩) rfl dX2_layRow_93 ?_
            refine g_iload hk dX2_layRow_94 rfl ?_
            refine g_iload hk dX2_layRow_96 rfl ?_
            have b4024l := Int32.le_toInt y4021
            have b4024h := Int32.toInt_lt y4021
            have b4025l := Int32.le_toInt x3829
            have b4025h := Int32.toInt_lt x3829
            refine g_icmp_ge (tgt := 105) (a := y4021.toInt) (b := x3829.toInt) hk dX2_layRow_98 (by decide) rfl rfl (fun c4026 => ?_) (fun c4026 => ?_)
            · skip
              replace hF := FE.pos hF c4026
              obtain ⟨y4027, ey4027⟩ : ∃ y : Int32, y = x3828 + Int32.ofInt 1 := ⟨_, rfl⟩
              replace hF := FE.lt hF ey4027
              have hy4027 : y4027.toInt = x3828.toInt + 1 := i32_add ey4027 rfl (by decide) (by omega) (by omega)
              refine g_iinc (v := y4027) (lv' := [(5, .int y4027), (6, .int y4021), (4, .int x3829), (3, .int y3827), (2, .int y3821), (0, .ref (q 38)), (1, .int z1)]) hk 1 dX2_layRow_105 rfl ey4027.symm (by decide) rfl ?_
              refine g_goto (tgt := 34) hk dX2_layRow_108 (by decide) ?_
              exact g_lv (List.forall_mem_cons.mpr ⟨List.mem_of_getElem? (i := 0) rfl, (List.forall_mem_cons.mpr ⟨List.mem_of_getElem? (i := 2) rfl, (List.forall_mem_cons.mpr ⟨List.mem_of_getElem? (i := 3) rfl, (List.forall_mem_cons.mpr ⟨List.mem_of_getElem? (i := 4) rfl, (List.forall_mem_cons.mpr ⟨List.mem_of_getElem? (i := 5) rfl, (List.forall_mem_cons.mpr ⟨List.mem_of_getElem? (i := 6) rfl, (fun _ h => absurd h List.not_mem_nil)⟩)⟩)⟩)⟩)⟩)⟩) (ih3987 y4027 x3829 I3834 (up3 A3834 23 (y4023.toNatClampNeg) y4021) (show Md [] I I3834 from Md.tr hI3834 (show Md [] I3834 I3834 from Md.rf) rfl) (show Md [23] A (up3 A3834 23 (y4023.toNatClampNeg) y4021) from Md.tr hA3834 (show Md [23] A3834 (up3 A3834 23 (y4023.toNatClampNeg) y4021) from (Md.up3 Md.rf rfl)) rfl) ⟨(IvX_f0 (I := I3834) (A := A3834) hV3834), (IvX_f18 (I := I3834) (A := A3834) hV3834), (IvX_f30 (I := I3834) (A := A3834) hV3834), (IvX_f31 (I := I3834) (A := A3834) hV3834), (IvX_a4 (I := I3834) (A := A3834) hV3834), (IvX_a9 (I := I3834) (A := A3834) hV3834), trivial⟩ (by omega) (by omega) (by omega) (by omega) hF)
            · skip
              replace hF := FE.neg hF c4026
              refine g_iload hk dX2_layRow_101 rfl ?_
              refine g_istore (lv' := [(4, .int y4021), (6, .int y4021), (5, .int x3828), (3, .int y3827), (2, .int y3821), (0, .ref (q 38)), (1, .int z1)]) hk dX2_layRow_103 (by decide) rfl ?_
              obtain ⟨y4028, ey4028⟩ : ∃ y : Int32, y = x3828 + Int32.ofInt 1 := ⟨_, rfl⟩
              replace hF := FE.lt hF ey4028
              have hy4028 : y4028.toInt = x3828.toInt + 1 := i32_add ey4028 rfl (by decide) (by omega) (by omega)
              refine g_iinc (v := y4028) (lv' := [(5, .int y4028), (4, .int y4021), (6, .int y4021), (3, .int y3827), (2, .int y3821), (0, .ref (q 38)), (1, .int z1)]) hk 2 dX2_layRow_105 rfl ey4028.symm (by decide) rfl ?_
              refine g_goto (tgt := 34) hk dX2_layRow_108 (by decide) ?_
              exact g_lv (List.forall_mem_cons.mpr ⟨List.mem_of_getElem? (i := 0) rfl, (List.forall_mem_cons.mpr ⟨List.mem_of_getElem? (i := 1) rfl, (List.forall_mem_cons.mpr ⟨List.mem_of_getElem? (i := 3) rfl, (List.forall_mem_cons.mpr ⟨List.mem_of_getElem? (i := 4) rfl, (List.forall_mem_cons.mpr ⟨List.mem_of_getElem? (i := 5) rfl, (List.forall_mem_cons.mpr ⟨List.mem_of_getElem? (i := 6) rfl, (fun _ h => absurd h List.not_mem_nil)⟩)⟩)⟩)⟩)⟩)⟩) (ih3987 y4028 y4021 I3834 (up3 A3834 23 (y4023.toNatClampNeg) y4021) (show Md [] I I3834 from Md.tr hI3834 (show Md [] I3834 I3834 from Md.rf) rfl) (show Md [23] A (up3 A3834 23 (y4023.toNatClampNeg) y4021) from Md.tr hA3834 (show Md [23] A3834 (up3 A3834 23 (y4023.toNatClampNeg) y4021) from (Md.up3 Md.rf rfl)) rfl) ⟨(IvX_f0 (I := I3834) (A := A3834) hV3834), (IvX_f18 (I := I3834) (A := A3834) hV3834), (IvX_f30 (I := I3834) (A := A3834) hV3834), (IvX_f31 (I := I3834) (A := A3834) hV3834), (IvX_a4 (I := I3834) (A := A3834) hV3834), (IvX_a9 (I := I3834) (A := A3834) hV3834), trivial⟩ (by omega) (by omega) (by omega) (by omega) hF)
  have k4030 : (2147483647 : Int32).toInt = 2147483647 := rfl
  have b4031 := Int32.le_toInt y3821
  have b4032 := Int32.toInt_lt y3821
  have n4029a : 16 - y3821.toInt < (FU : Int) := by have := FU_eq; omega
  have n4029b : 0 < FU := by have := FU_eq; omega
  exact lp3983 FU y3821 2147483647 I A Md.rf Md.rf hIv (by omega) (by omega) n4029a n4029b hF
noncomputable def bX2_layTable_13 (I : Nat → Int32) (z1 : Int32) : (Int32 → (Nat → Int32) → (Nat → Nat → Int32) → (Int32 × (Nat → Int32) × (Nat → Nat → Int32))) → Int32 → (Nat → Int32) → (Nat → Nat → Int32) → (Int32 × (Nat → Int32) × (Nat → Nat → Int32)) := fun kk4069 x3813 I3816 A3816 => if (I 30).toInt ≤ x3813.toInt then (0, I3816, A3816) else f_bdX (fX2_layRow I3816 A3816 x3813) fun y4073 I4074 A4074 => if y4073.toInt < z1.toInt then f_lt (x3813 + Int32.ofInt 1) fun y4078 => kk4069 y4078 I4074 A4074 else (0, (upd I4074 34 x3813), A4074)
noncomputable def fX2_layTable (I : Nat → Int32) (A : Nat → Nat → Int32) (z1 : Int32) : Int32 × (Nat → Int32) × (Nat → Nat → Int32) := itr_iIA dfX (bX2_layTable_13 I z1) FU 0 (upd (upd I 33 0) 34 (-2)) A
def wo_k233_X2_layTable : List Cond := [Cond.fieldLink RX2 76 "WarpDesk$Fit" "cells" "I", Cond.fieldLink RX2 79 "WarpDesk$Fit" "brokenRow" "I", Cond.fieldLink RX2 24 "WarpDesk$Fit" "length" "I", Cond.methodLink RX2 94 yX2_layRow, Cond.instanceMethod yX2_layRow, Cond.selects RX2 yX2_layRow yX2_layRow, Cond.initialized RX2]
def wz_k233_X2_layTable : List Cond := .code yX2_layTable cX2_layTable 3 none :: (wo_k233_X2_layTable ++ (wsX20 ++ (wz_k234_X2_layRow ++ ([] : List Cond))))
theorem zg_k233_X2_layTable : ∀ w ∈ wz_k233_X2_layTable, goodWord w = true := zg_cons rfl (zg_app (by decide +kernel) (zg_app zgU_wsX20 (zg_app zg_k234_X2_layRow zg_nil)))
theorem zi_k233_X2_layTable : ∀ w ∈ wz_k233_X2_layTable, w ∈ lw_tbl := zi_cons zw_1000 (zi_app (zi_cons zw_347 (zi_cons zw_350 (zi_cons zw_343 (zi_cons zw_1001 (zi_cons zw_1003 (zi_cons zw_29 (zi_cons zw_112 zi_nil))))))) (zi_app inX2 (zi_app zi_k234_X2_layRow zi_nil)))
set_option maxHeartbeats 4000000 in
set_option maxRecDepth 100000 in
theorem k233_X2_layTable (l : Launch) (D : va_G) (zt : Nat × Nat × Nat × (Nat → Nat) × (Nat → Nat)) (q : Nat → Nat) (d : Nat → ClassId) (I : Nat → Int32) (A : Nat → Nat → Int32) (z1 : Int32) (hIv : IvX I A) : GM l D zt (tyX d) yX2_layTable wz_k233_X2_layTable ({ frames := 2, cells := 0, slots := 0, locals := 50 } : Room) [.ref (q 38), .int z1] (wX q d I A) (fun v _ w' => ∃ (I' : Nat → Int32) (A' : Nat → Nat → Int32), Md [33, 34] I I' ∧ Md [23] A A' ∧ IvX I' A' ∧ FE (fX2_layTable I A z1) (0, I', A') ∧ v = none ∧ w' = wX q d I' A') 0 0 := by
  refine GM.of (cc := cX2_layTable) (maxL := 3) (ret := none) (own := RX2) (lv := [(0, .ref (q 38)), (1, .int z1)]) (by decide) rfl rfl (Nat.le_of_ble_eq_true rfl) rfl (fun κ sz hk hR hN => ?_)
  have hin2 : ∀ w ∈ u_ws RX2 TX2 10, w ∈ wz_k233_X2_layTable := fun w h => (List.mem_cons_of_mem _ (List.mem_append_right _ (List.mem_append_left _ h)))
  have hF : FE (fX2_layTable I A z1) (fX2_layTable I A z1) := FE.rf
  refine g_aload_n hk dX2_layTable_0 rfl ?_
  refine g_iconst (v := 0) hk dX2_layTable_1 (by decide) ?_
  refine pX_i33 hk hin2 (List.mem_cons_of_mem _ (List.mem_append_left _ (List.mem_of_getElem? (i := 0) rfl))) dX2_layTable_2 ?_
  refine g_aload_n hk dX2_layTable_5 rfl ?_
  refine g_bipush (v := (-2)) hk dX2_layTable_6 (by decide) ?_
  refine pX_i34 hk hin2 (List.mem_cons_of_mem _ (List.mem_append_left _ (List.mem_of_getElem? (i := 1) rfl))) dX2_layTable_8 ?_
  refine g_iconst (v := 0) hk dX2_layTable_11 (by decide) ?_
  refine g_istore_n (lv' := [(2, .int 0), (0, .ref (q 38)), (1, .int z1)]) hk dX2_layTable_12 (by decide) rfl ?_
  have lp4066 : ∀ (n4067 : Nat) (x3813 : Int32) (I3816 : Nat → Int32) (A3816 : Nat → Nat → Int32), (Md [33, 34] (upd (upd I 33 0) 34 (-2)) I3816) → (Md [23] A A3816) → (IvX I3816 A3816) → (0 ≤ x3813.toInt) → (x3813.toInt ≤ 16) → (17 - x3813.toInt < (n4067 : Int)) → (0 < n4067) → (FE (fX2_layTable I A z1) (itr_iIA dfX (bX2_layTable_13 I z1) n4067 x3813 I3816 A3816)) → GW κ 3 0 0 (wX q d I3816 A3816) 13 [(2, .int x3813), (0, .ref (q 38)), (1, .int z1)] [] := by
    intro n4067
    induction n4067 with
    | zero =>
      intro x3813 I3816 A3816 hI3816 hA3816 hV3816 h4064 h4065 m4068 m4068z hF
      exact absurd m4068z (Nat.lt_irrefl 0)
    | succ n4067 ih4070 =>
      intro x3813 I3816 A3816 hI3816 hA3816 hV3816 h4064 h4065 m4068 m4068z hF
      replace hF := FE.itr_iIA hF
      refine g_iload_n hk dX2_layTable_13 rfl ?_
      refine g_aload_n hk dX2_layTable_14 rfl ?_
      refine gX_i30 (v := (I 30)) hk hin2 (List.mem_cons_of_mem _ (List.mem_append_left _ (List.mem_of_getElem? (i := 2) rfl))) dX2_layTable_15 (hI3816 30 rfl) ?_
      have f4071 := IvX_f30 hIv
      refine g_icmp_ge (tgt := 42) (a := x3813.toInt) (b := (I 30).toInt) hk dX2_layTable_18 (by decide) rfl rfl (fun c4072 => ?_) (fun c4072 => ?_)
      · skip
        replace hF := FE.pos hF c4072
        exact g_vret hk hR ⟨I3816, A3816, (show Md [33, 34] I I3816 from (Md.tr (Md.up (Md.up Md.rf rfl) rfl) hI3816 rfl)), (show Md [23] A A3816 from (Md.tr Md.rf hA3816 rfl)), hV3816, hF, rfl, rfl⟩ dX2_layTable_42
      · skip
        replace hF := FE.neg hF c4072
        refine g_aload_n hk dX2_layTable_21 rfl ?_
        refine g_iload_n hk dX2_layTable_22 rfl ?_
        refine g_callV (n := 1) hk (k234_X2_layRow l D zt q d I3816 A3816 x3813 hV3816 (by omega) (by omega)) (SP.same _) (fun _ h => h) (gi_V (List.mem_cons_of_mem _ (List.mem_append_left _ (List.mem_of_getElem? (i := 3) rfl))) (List.mem_cons_of_mem _ (List.mem_append_left _ (List.mem_of_getElem? (i := 4) rfl))) (List.mem_cons_of_mem _ (List.mem_append_left _ (List.mem_of_getElem? (i := 5) rfl))) (List.mem_cons_of_mem _ (List.mem_append_left _ (List.mem_of_getElem? (i := 6) rfl))) (gi_sub (fun w h => (List.mem_cons_of_mem _ (List.mem_append_right _ (List.mem_append_right _ (List.mem_append_left _ h))))) zg_k234_X2_layRow)) rfl rfl rfl (by decide +kernel) ⟨Nat.le_of_ble_eq_true rfl, Nat.le_of_ble_eq_true rfl⟩ 38 rfl rfl rfl rfl (Nat.le_of_ble_eq_true rfl) ⟨Nat.le_of_ble_eq_true rfl, Nat.le_of_ble_eq_true rfl⟩ dX2_layTable_23 (fun v ty' w' hp hk' => ?_)
        obtain ⟨I4074, A4074, hI4074, hA4074, hV4074, y4073, hC, rfl, rfl⟩ := hp
        replace hF := FE.bdX hF hC
        show GW κ 3 0 0 (wX q d I4074 A4074) 26 [(2, .int x3813), (0, .ref (q 38)), (1, .int z1)] [.int y4073]
        refine g_iload_n hk dX2_layTable_26 rfl ?_
        have b4075l := Int32.le_toInt y4073
        have b4075h := Int32.toInt_lt y4073
        have b4076l := Int32.le_toInt z1
        have b4076h := Int32.toInt_lt z1
        refine g_icmp_lt (tgt := 36) (a := y4073.toInt) (b := z1.toInt) hk dX2_layTable_27 (by decide) rfl rfl (fun c4077 => ?_) (fun c4077 => ?_)
        · skip
          replace hF := FE.pos hF c4077
          obtain ⟨y4078, ey4078⟩ : ∃ y : Int32, y = x3813 + Int32.ofInt 1 := ⟨_, rfl⟩
          replace hF := FE.lt hF ey4078
          have hy4078 : y4078.toInt = x3813.toInt + 1 := i32_add ey4078 rfl (by decide) (by omega) (by omega)
          refine g_iinc (v := y4078) (lv' := [(2, .int y4078), (0, .ref (q 38)), (1, .int z1)]) hk 0 dX2_layTable_36 rfl ey4078.symm (by decide) rfl ?_
          refine g_goto (tgt := 13) hk dX2_layTable_39 (by decide) ?_
          exact g_lv (List.forall_mem_cons.mpr ⟨List.mem_of_getElem? (i := 0) rfl, (List.forall_mem_cons.mpr ⟨List.mem_of_getElem? (i := 1) rfl, (List.forall_mem_cons.mpr ⟨List.mem_of_getElem? (i := 2) rfl, (fun _ h => absurd h List.not_mem_nil)⟩)⟩)⟩) (ih4070 y4078 I4074 A4074 (show Md [33, 34] (upd (upd I 33 0) 34 (-2)) I4074 from Md.tr hI3816 (show Md [33, 34] I3816 I4074 from (Md.tr Md.rf hI4074 rfl)) rfl) (show Md [23] A A4074 from Md.tr hA3816 (show Md [23] A3816 A4074 from (Md.tr Md.rf hA4074 rfl)) rfl) hV4074 (by omega) (by omega) (by omega) (by omega) hF)
        · skip
          replace hF := FE.neg hF c4077
          refine g_aload_n hk dX2_layTable_30 rfl ?_
          refine g_iload_n hk dX2_layTable_31 rfl ?_
          refine pX_i34 hk hin2 (List.mem_cons_of_mem _ (List.mem_append_left _ (List.mem_of_getElem? (i := 1) rfl))) dX2_layTable_32 ?_
          exact g_vret hk hR ⟨(upd I4074 34 x3813), A4074, (show Md [33, 34] I (upd I4074 34 x3813) from (Md.up (Md.tr (Md.tr (Md.up (Md.up Md.rf rfl) rfl) hI3816 rfl) hI4074 rfl) rfl)), (show Md [23] A A4074 from (Md.tr (Md.tr Md.rf hA3816 rfl) hA4074 rfl)), ⟨(IvX_f0 (I := I4074) (A := A4074) hV4074), (IvX_f18 (I := I4074) (A := A4074) hV4074), (IvX_f30 (I := I4074) (A := A4074) hV4074), (IvX_f31 (I := I4074) (A := A4074) hV4074), (IvX_a4 (I := I4074) (A := A4074) hV4074), (IvX_a9 (I := I4074) (A := A4074) hV4074), trivial⟩, hF, rfl, rfl⟩ dX2_layTable_35
  have k4080 : (0 : Int32).toInt = 0 := rfl
  have n4079a : 17 - 0 < (FU : Int) := by have := FU_eq; omega
  have n4079b : 0 < FU := by have := FU_eq; omega
  exact lp4066 FU 0 (upd (upd I 33 0) 34 (-2)) A Md.rf Md.rf ⟨(IvX_f0 (I := I) (A := A) hIv), (IvX_f18 (I := I) (A := A) hIv), (IvX_f30 (I := I) (A := A) hIv), (IvX_f31 (I := I) (A := A) hIv), (IvX_a4 (I := I) (A := A) hIv), (IvX_a9 (I := I) (A := A) hIv), trivial⟩ (by omega) (by omega) n4079a n4079b hF
noncomputable def fX2_laidDistance (I : Nat → Int32) (A : Nat → Nat → Int32) : Int32 := f_lt ((I 30) - (1 : Int32)) fun y4085 => f_lt (y4085 * (16 : Int32)) fun y4086 => f_lt (y4086 + (I 30)) fun y4087 => f_lt (y4087 - (1 : Int32)) fun y4088 => (A 23 y4088.toNatClampNeg)
def wo_k237_X2_laidDistance : List Cond := [Cond.fieldLink RX2 18 "WarpDesk$Fit" "table" "[I", Cond.fieldLink RX2 24 "WarpDesk$Fit" "length" "I"]
def wz_k237_X2_laidDistance : List Cond := .code yX2_laidDistance cX2_laidDistance 1 (some .int) :: (wo_k237_X2_laidDistance ++ (wsX20 ++ ([] : List Cond)))
theorem zg_k237_X2_laidDistance : ∀ w ∈ wz_k237_X2_laidDistance, goodWord w = true := zg_cons rfl (zg_app (by decide +kernel) (zg_app zgU_wsX20 zg_nil))
theorem zi_k237_X2_laidDistance : ∀ w ∈ wz_k237_X2_laidDistance, w ∈ lw_tbl := zi_cons zw_1016 (zi_app (zi_cons zw_339 (zi_cons zw_343 zi_nil)) (zi_app inX2 zi_nil))
set_option maxHeartbeats 4000000 in
set_option maxRecDepth 100000 in
theorem k237_X2_laidDistance (l : Launch) (D : va_G) (zt : Nat × Nat × Nat × (Nat → Nat) × (Nat → Nat)) (q : Nat → Nat) (d : Nat → ClassId) (I : Nat → Int32) (A : Nat → Nat → Int32) (hIv : IvX I A) : GM l D zt (tyX d) yX2_laidDistance wz_k237_X2_laidDistance ({ frames := 0, cells := 0, slots := 0, locals := 0 } : Room) [.ref (q 38)] (wX q d I A) (fun v _ w' => ∃ y0 : Int32, FE (fX2_laidDistance I A) y0 ∧ v = some (.int y0) ∧ w' = wX q d I A) 0 0 := by
  refine GM.of (cc := cX2_laidDistance) (maxL := 1) (ret := (some .int)) (own := RX2) (lv := [(0, .ref (q 38))]) (by decide) rfl rfl (Nat.le_of_ble_eq_true rfl) rfl (fun κ sz hk hR hN => ?_)
  have hin2 : ∀ w ∈ u_ws RX2 TX2 10, w ∈ wz_k237_X2_laidDistance := fun w h => (List.mem_cons_of_mem _ (List.mem_append_right _ (List.mem_append_left _ h)))
  have hF : FE (fX2_laidDistance I A) (fX2_laidDistance I A) := FE.rf
  refine g_aload_n hk dX2_laidDistance_0 rfl ?_
  refine gX_r38_2 hk hin2 (List.mem_cons_of_mem _ (List.mem_append_left _ (List.mem_of_getElem? (i := 0) rfl))) dX2_laidDistance_1 ?_
  refine g_aload_n hk dX2_laidDistance_4 rfl ?_
  refine gX_i30 (v := (I 30)) hk hin2 (List.mem_cons_of_mem _ (List.mem_append_left _ (List.mem_of_getElem? (i := 1) rfl))) dX2_laidDistance_5 rfl ?_
  have f4084 := IvX_f30 hIv
  refine g_iconst (v := 1) hk dX2_laidDistance_8 (by decide) ?_
  refine g_isub hk dX2_laidDistance_9 ?_
  refine g_topi (fun y4085 ey4085 => ?_)
  replace hF := FE.lt hF ey4085
  have hy4085 : y4085.toInt = (I 30).toInt - 1 := i32_sub ey4085 rfl rfl (by omega) (by omega)
  refine g_bipush (v := 16) hk dX2_laidDistance_10 (by decide) ?_
  refine g_imul hk dX2_laidDistance_12 ?_
  refine g_topi (fun y4086 ey4086 => ?_)
  replace hF := FE.lt hF ey4086
  have hy4086 : y4086.toInt = y4085.toInt * 16 := i32_mul ey4086 rfl rfl (by omega) (by omega)
  refine g_aload_n hk dX2_laidDistance_13 rfl ?_
  refine gX_i30 (v := (I 30)) hk hin2 (List.mem_cons_of_mem _ (List.mem_append_left _ (List.mem_of_getElem? (i := 1) rfl))) dX2_laidDistance_14 rfl ?_
  refine g_iadd hk dX2_laidDistance_17 ?_
  refine g_topi (fun y4087 ey4087 => ?_)
  replace hF := FE.lt hF ey4087
  have hy4087 : y4087.toInt = y4086.toInt + (I 30).toInt := i32_add ey4087 rfl rfl (by omega) (by omega)
  refine g_iconst (v := 1) hk dX2_laidDistance_18 (by decide) ?_
  refine g_isub hk dX2_laidDistance_19 ?_
  refine g_topi (fun y4088 ey4088 => ?_)
  replace hF := FE.lt hF ey4088
  have hy4088 : y4088.toInt = y4087.toInt - 1 := i32_sub ey4088 rfl rfl (by omega) (by omega)
  refine lX_23 (v := (A 23 y4088.toNatClampNeg)) hk (vp_in_iff.mpr ⟨by omega, by omega⟩) rfl dX2_laidDistance_20 ?_
  have b4089l := Int32.le_toInt (A 23 y4088.toNatClampNeg)
  have b4089h := Int32.toInt_lt (A 23 y4088.toNatClampNeg)
  exact g_iret hk hR rfl ⟨(A 23 y4088.toNatClampNeg), hF, rfl, rfl⟩ dX2_laidDistance_21
noncomputable def fX2_wholeDistance (I : Nat → Int32) (A : Nat → Nat → Int32) : Int32 × (Nat → Int32) × (Nat → Nat → Int32) := f_bdX (fX2_layTable I A 2147483647) fun _ I4083 A4083 => f_lt (fX2_laidDistance I4083 A4083) fun y4090 => (y4090, I4083, A4083)
def wo_k232_X2_wholeDistance : List Cond := [Cond.constant RX2 93 (2147483647), Cond.methodLink RX2 86 yX2_layTable, Cond.instanceMethod yX2_layTable, Cond.selects RX2 yX2_layTable yX2_layTable, Cond.initialized RX2, Cond.methodLink RX2 90 yX2_laidDistance, Cond.instanceMethod yX2_laidDistance, Cond.selects RX2 yX2_laidDistance yX2_laidDistance]
def wz_k232_X2_wholeDistance : List Cond := .code yX2_wholeDistance cX2_wholeDistance 1 (some .int) :: (wo_k232_X2_wholeDistance ++ (wz_k233_X2_layTable ++ (wz_k237_X2_laidDistance ++ ([] : List Cond))))
theorem zg_k232_X2_wholeDistance : ∀ w ∈ wz_k232_X2_wholeDistance, goodWord w = true := zg_cons rfl (zg_app (by decide +kernel) (zg_app zg_k233_X2_layTable (zg_app zg_k237_X2_laidDistance zg_nil)))
theorem zi_k232_X2_wholeDistance : ∀ w ∈ wz_k232_X2_wholeDistance, w ∈ lw_tbl := zi_cons zw_995 (zi_app (zi_cons zw_996 (zi_cons zw_997 (zi_cons zw_999 (zi_cons zw_28 (zi_cons zw_112 (zi_cons zw_1013 (zi_cons zw_1014 (zi_cons zw_1015 zi_nil)))))))) (zi_app zi_k233_X2_layTable (zi_app zi_k237_X2_laidDistance zi_nil)))
set_option maxHeartbeats 4000000 in
set_option maxRecDepth 100000 in
theorem k232_X2_wholeDistance (l : Launch) (D : va_G) (zt : Nat × Nat × Nat × (Nat → Nat) × (Nat → Nat)) (q : Nat → Nat) (d : Nat → ClassId) (I : Nat → Int32) (A : Nat → Nat → Int32) (hIv : IvX I A) : GM l D zt (tyX d) yX2_wholeDistance wz_k232_X2_wholeDistance ({ frames := 3, cells := 0, slots := 0, locals := 72 } : Room) [.ref (q 38)] (wX q d I A) (fun v _ w' => ∃ (I' : Nat → Int32) (A' : Nat → Nat → Int32), Md [33, 34] I I' ∧ Md [23] A A' ∧ IvX I' A' ∧ ∃ y0 : Int32, FE (fX2_wholeDistance I A) (y0, I', A') ∧ v = some (.int y0) ∧ w' = wX q d I' A') 0 0 := by
  refine GM.of (cc := cX2_wholeDistance) (maxL := 1) (ret := (some .int)) (own := RX2) (lv := [(0, .ref (q 38))]) (by decide) rfl rfl (Nat.le_of_ble_eq_true rfl) rfl (fun κ sz hk hR hN => ?_)
  have hF : FE (fX2_wholeDistance I A) (fX2_wholeDistance I A) := FE.rf
  refine g_aload_n hk dX2_wholeDistance_0 rfl ?_
  refine g_ldc (v := 2147483647) hk (List.mem_cons_of_mem _ (List.mem_append_left _ (List.mem_of_getElem? (i := 0) rfl))) dX2_wholeDistance_1 ?_
  have k4081 : (2147483647 : Int32).toInt = 2147483647 := rfl
  refine g_callV (n := 1) hk (k233_X2_layTable l D zt q d I A 2147483647 hIv) (SP.same _) (fun _ h => h) (gi_V (List.mem_cons_of_mem _ (List.mem_append_left _ (List.mem_of_getElem? (i := 1) rfl))) (List.mem_cons_of_mem _ (List.mem_append_left _ (List.mem_of_getElem? (i := 2) rfl))) (List.mem_cons_of_mem _ (List.mem_append_left _ (List.mem_of_getElem? (i := 3) rfl))) (List.mem_cons_of_mem _ (List.mem_append_left _ (List.mem_of_getElem? (i := 4) rfl))) (gi_sub (fun w h => (List.mem_cons_of_mem _ (List.mem_append_right _ (List.mem_append_left _ h)))) zg_k233_X2_layTable)) rfl rfl rfl (by decide +kernel) ⟨Nat.le_of_ble_eq_true rfl, Nat.le_of_ble_eq_true rfl⟩ 38 rfl rfl rfl rfl (Nat.le_of_ble_eq_true rfl) ⟨Nat.le_of_ble_eq_true rfl, Nat.le_of_ble_eq_true rfl⟩ dX2_wholeDistance_3 (fun v ty' w' hp hk' => ?_)
  obtain ⟨I4083, A4083, hI4083, hA4083, hV4083, hC, rfl, rfl⟩ := hp
  replace hF := FE.bdX hF hC
  show GW κ 1 0 0 (wX q d I4083 A4083) 6 [(0, .ref (q 38))] []
  refine g_aload_n hk dX2_wholeDistance_6 rfl ?_
  refine g_callV (n := 0) hk (k237_X2_laidDistance l D zt q d I4083 A4083  hV4083) (SP.same _) (fun _ h => h) (gi_V (List.mem_cons_of_mem _ (List.mem_append_left _ (List.mem_of_getElem? (i := 5) rfl))) (List.mem_cons_of_mem _ (List.mem_append_left _ (List.mem_of_getElem? (i := 6) rfl))) (List.mem_cons_of_mem _ (List.mem_append_left _ (List.mem_of_getElem? (i := 7) rfl))) (List.mem_cons_of_mem _ (List.mem_append_left _ (List.mem_of_getElem? (i := 4) rfl))) (gi_sub (fun w h => (List.mem_cons_of_mem _ (List.mem_append_right _ (List.mem_append_right _ (List.mem_append_left _ h))))) zg_k237_X2_laidDistance)) rfl rfl rfl (by decide +kernel) ⟨Nat.le_of_ble_eq_true rfl, Nat.le_of_ble_eq_true rfl⟩ 38 rfl rfl rfl rfl (Nat.le_of_ble_eq_true rfl) ⟨Nat.le_of_ble_eq_true rfl, Nat.le_of_ble_eq_true rfl⟩ dX2_wholeDistance_7 (fun v ty' w' hp hk' => ?_)
  obtain ⟨y4090, hC, rfl, rfl⟩ := hp
  replace hF := FE.lt hF (fe_s hC)
  show GW κ 1 0 0 (wX q d I4083 A4083) 10 [(0, .ref (q 38))] [.int y4090]
  have b4091l := Int32.le_toInt y4090
  have b4091h := Int32.toInt_lt y4090
  exact g_iret hk hR rfl ⟨I4083, A4083, (show Md [33, 34] I I4083 from (Md.tr Md.rf hI4083 rfl)), (show Md [23] A A4083 from (Md.tr Md.rf hA4083 rfl)), hV4083, y4090, hF, rfl, rfl⟩ dX2_wholeDistance_10
noncomputable def fX11_distance (I : Nat → Int32) (A : Nat → Nat → Int32) (z1 : Int32) (z2 : Int32) : Int32 × (Nat → Int32) × (Nat → Nat → Int32) := f_bdX (fX0_openBoth I A z1 z2) fun y3808 I3811 A3811 => if y3808.toInt = 0 then ((-1), I3811, A3811) else f_bdX (fX2_wholeDistance I3811 A3811) fun y4092 I4093 A4093 => (y4092, I4093, A4093)
def wo_k221_X11_distance : List Cond := [Cond.fieldLink RX11 65 "WarpDesk" "bench" "LWarpDesk$Bench;", Cond.methodLink RX11 212 yX0_openBoth, Cond.instanceMethod yX0_openBoth, Cond.selects RX0 yX0_openBoth yX0_openBoth, Cond.initialized RX0, Cond.fieldLink RX11 202 "WarpDesk$Bench" "fit" "LWarpDesk$Fit;", Cond.methodLink RX11 215 yX2_wholeDistance, Cond.instanceMethod yX2_wholeDistance, Cond.selects RX2 yX2_wholeDistance yX2_wholeDistance, Cond.initialized RX2]
def wz_k221_X11_distance : List Cond := .code yX11_distance cX11_distance 3 (some .int) :: (wo_k221_X11_distance ++ (wsX00 ++ (wsX110 ++ (wz_k222_X0_openBoth ++ (wz_k232_X2_wholeDistance ++ ([] : List Cond))))))
theorem zg_k221_X11_distance : ∀ w ∈ wz_k221_X11_distance, goodWord w = true := zg_cons rfl (zg_app (by decide +kernel) (zg_app zgU_wsX00 (zg_app zgU_wsX110 (zg_app zg_k222_X0_openBoth (zg_app zg_k232_X2_wholeDistance zg_nil)))))
theorem zi_k221_X11_distance : ∀ w ∈ wz_k221_X11_distance, w ∈ lw_tbl := zi_cons zw_968 (zi_app (zi_cons zw_494 (zi_cons zw_969 (zi_cons zw_970 (zi_cons zw_971 (zi_cons zw_111 (zi_cons zw_383 (zi_cons zw_992 (zi_cons zw_993 (zi_cons zw_994 (zi_cons zw_112 zi_nil)))))))))) (zi_app inX0 (zi_app inX11 (zi_app zi_k222_X0_openBoth (zi_app zi_k232_X2_wholeDistance zi_nil)))))
set_option maxHeartbeats 4000000 in
set_option maxRecDepth 100000 in
theorem k221_X11_distance (l : Launch) (D : va_G) (zt : Nat × Nat × Nat × (Nat → Nat) × (Nat → Nat)) (q : Nat → Nat) (d : Nat → ClassId) (I : Nat → Int32) (A : Nat → Nat → Int32) (z1 : Int32) (z2 : Int32) (hIv : IvX I A) : GM l D zt (tyX d) yX11_distance wz_k221_X11_distance ({ frames := 6, cells := 0, slots := 0, locals := 131 } : Room) [.ref (q 0), .int z1, .int z2] (wX q d I A) (fun v _ w' => ∃ (I' : Nat → Int32) (A' : Nat → Nat → Int32), Md [28, 30, 31, 32, 33, 34] I I' ∧ Md [21, 22, 23] A A' ∧ IvX I' A' ∧ ∃ y0 : Int32, FE (fX11_distance I A z1 z2) (y0, I', A') ∧ v = some (.int y0) ∧ w' = wX q d I' A') 0 0 := by
  refine GM.of (cc := cX11_distance) (maxL := 3) (ret := (some .int)) (own := RX11) (lv := [(0, .ref (q 0)), (1, .int z1), (2, .int z2)]) (by decide) rfl rfl (Nat.le_of_ble_eq_true rfl) rfl (fun κ sz hk hR hN => ?_)
  have hin0 : ∀ w ∈ u_ws RX0 TX0 5, w ∈ wz_k221_X11_distance := fun w h => (List.mem_cons_of_mem _ (List.mem_append_right _ (List.mem_append_left _ h)))
  have hin11 : ∀ w ∈ u_ws RX11 TX11 10, w ∈ wz_k221_X11_distance := fun w h => (List.mem_cons_of_mem _ (List.mem_append_right _ (List.mem_append_right _ (List.mem_append_left _ h))))
  have hF : FE (fX11_distance I A z1 z2) (fX11_distance I A z1 z2) := FE.rf
  refine g_aload_n hk dX11_distance_0 rfl ?_
  refine gX_r0_7 hk hin11 (List.mem_cons_of_mem _ (List.mem_append_left _ (List.mem_of_getElem? (i := 0) rfl))) dX11_distance_1 ?_
  refine g_iload_n hk dX11_distance_4 rfl ?_
  refine g_iload_n hk dX11_distance_5 rfl ?_
  refine g_callV (n := 2) hk (k222_X0_openBoth l D zt q d I A z1 z2 hIv) (SP.same _) (fun _ h => h) (gi_V (List.mem_cons_of_mem _ (List.mem_append_left _ (List.mem_of_getElem? (i := 1) rfl))) (List.mem_cons_of_mem _ (List.mem_append_left _ (List.mem_of_getElem? (i := 2) rfl))) (List.mem_cons_of_mem _ (List.mem_append_left _ (List.mem_of_getElem? (i := 3) rfl))) (List.mem_cons_of_mem _ (List.mem_append_left _ (List.mem_of_getElem? (i := 4) rfl))) (gi_sub (fun w h => (List.mem_cons_of_mem _ (List.mem_append_right _ (List.mem_append_right _ (List.mem_append_right _ (List.mem_append_left _ h)))))) zg_k222_X0_openBoth)) rfl rfl rfl (by decide +kernel) ⟨Nat.le_of_ble_eq_true rfl, Nat.le_of_ble_eq_true rfl⟩ 37 rfl rfl rfl rfl (Nat.le_of_ble_eq_true rfl) ⟨Nat.le_of_ble_eq_true rfl, Nat.le_of_ble_eq_true rfl⟩ dX11_distance_6 (fun v ty' w' hp hk' => ?_)
  obtain ⟨I3811, A3811, hI3811, hA3811, hV3811, y3808, c3809, c3810, hC, rfl, rfl⟩ := hp
  replace hF := FE.bdX hF hC
  show GW κ 3 0 0 (wX q d I3811 A3811) 9 [(0, .ref (q 0)), (1, .int z1), (2, .int z2)] [.int y3808]
  refine g_if_eq (tgt := 25) (a := y3808.toInt) hk dX11_distance_9 (by decide) rfl (fun c3812 => ?_) (fun c3812 => ?_)
  · skip
    replace hF := FE.pos hF c3812
    refine g_iconst (v := (-1)) hk dX11_distance_25 (by decide) ?_
    exact g_iret hk hR rfl ⟨I3811, A3811, (show Md [28, 30, 31, 32, 33, 34] I I3811 from (Md.tr Md.rf hI3811 rfl)), (show Md [21, 22, 23] A A3811 from (Md.tr Md.rf hA3811 rfl)), hV3811, (-1), hF, rfl, rfl⟩ dX11_distance_26
  · skip
    replace hF := FE.neg hF c3812
    refine g_aload_n hk dX11_distance_12 rfl ?_
    refine gX_r0_7 hk hin11 (List.mem_cons_of_mem _ (List.mem_append_left _ (List.mem_of_getElem? (i := 0) rfl))) dX11_distance_13 ?_
    refine gX_r37_3 hk hin0 (List.mem_cons_of_mem _ (List.mem_append_left _ (List.mem_of_getElem? (i := 5) rfl))) dX11_distance_16 ?_
    refine g_callV (n := 0) hk (k232_X2_wholeDistance l D zt q d I3811 A3811  hV3811) (SP.same _) (fun _ h => h) (gi_V (List.mem_cons_of_mem _ (List.mem_append_left _ (List.mem_of_getElem? (i := 6) rfl))) (List.mem_cons_of_mem _ (List.mem_append_left _ (List.mem_of_getElem? (i := 7) rfl))) (List.mem_cons_of_mem _ (List.mem_append_left _ (List.mem_of_getElem? (i := 8) rfl))) (List.mem_cons_of_mem _ (List.mem_append_left _ (List.mem_of_getElem? (i := 9) rfl))) (gi_sub (fun w h => (List.mem_cons_of_mem _ (List.mem_append_right _ (List.mem_append_right _ (List.mem_append_right _ (List.mem_append_right _ (List.mem_append_left _ h))))))) zg_k232_X2_wholeDistance)) rfl rfl rfl (by decide +kernel) ⟨Nat.le_of_ble_eq_true rfl, Nat.le_of_ble_eq_true rfl⟩ 38 rfl rfl rfl rfl (Nat.le_of_ble_eq_true rfl) ⟨Nat.le_of_ble_eq_true rfl, Nat.le_of_ble_eq_true rfl⟩ dX11_distance_19 (fun v ty' w' hp hk' => ?_)
    obtain ⟨I4093, A4093, hI4093, hA4093, hV4093, y4092, hC, rfl, rfl⟩ := hp
    replace hF := FE.bdX hF hC
    show GW κ 3 0 0 (wX q d I4093 A4093) 22 [(0, .ref (q 0)), (1, .int z1), (2, .int z2)] [.int y4092]
    refine g_goto (tgt := 26) hk dX11_distance_22 (by decide) ?_
    have b4094l := Int32.le_toInt y4092
    have b4094h := Int32.toInt_lt y4092
    exact g_iret hk hR rfl ⟨I4093, A4093, (show Md [28, 30, 31, 32, 33, 34] I I4093 from (Md.tr (Md.tr Md.rf hI3811 rfl) hI4093 rfl)), (show Md [21, 22, 23] A A4093 from (Md.tr (Md.tr Md.rf hA3811 rfl) hA4093 rfl)), hV4093, y4092, hF, rfl, rfl⟩ dX11_distance_26
noncomputable def fX2_endsBound (I : Nat → Int32) (A : Nat → Nat → Int32) : Int32 := f_lt ((I 30) - (1 : Int32)) fun y4102 => f_lt (fX2_costOf I A (A 21 0) (A 22 0)) fun y4103 => f_lt (fX2_costOf I A (A 21 y4102.toNatClampNeg) (A 22 y4102.toNatClampNeg)) fun y4104 => f_lt (y4103 + y4104) fun y4107 => y4107
def wo_k239_X2_endsBound : List Cond := [Cond.fieldLink RX2 24 "WarpDesk$Fit" "length" "I", Cond.fieldLink RX2 9 "WarpDesk$Fit" "left" "[I", Cond.fieldLink RX2 15 "WarpDesk$Fit" "right" "[I", Cond.methodLink RX2 65 yX2_costOf, Cond.instanceMethod yX2_costOf, Cond.selects RX2 yX2_costOf yX2_costOf, Cond.initialized RX2]
def wz_k239_X2_endsBound : List Cond := .code yX2_endsBound cX2_endsBound 2 (some .int) :: (wo_k239_X2_endsBound ++ (wsX20 ++ (wz_k235_X2_costOf ++ ([] : List Cond))))
theorem zg_k239_X2_endsBound : ∀ w ∈ wz_k239_X2_endsBound, goodWord w = true := zg_cons rfl (zg_app (by decide +kernel) (zg_app zgU_wsX20 (zg_app zg_k235_X2_costOf zg_nil)))
theorem zi_k239_X2_endsBound : ∀ w ∈ wz_k239_X2_endsBound, w ∈ lw_tbl := zi_cons zw_1024 (zi_app (zi_cons zw_343 (zi_cons zw_334 (zi_cons zw_337 (zi_cons zw_1005 (zi_cons zw_1007 (zi_cons zw_30 (zi_cons zw_112 zi_nil))))))) (zi_app inX2 (zi_app zi_k235_X2_costOf zi_nil)))
set_option maxHeartbeats 4000000 in
set_option maxRecDepth 100000 in
theorem k239_X2_endsBound (l : Launch) (D : va_G) (zt : Nat × Nat × Nat × (Nat → Nat) × (Nat → Nat)) (q : Nat → Nat) (d : Nat → ClassId) (I : Nat → Int32) (A : Nat → Nat → Int32) (hIv : IvX I A) : GM l D zt (tyX d) yX2_endsBound wz_k239_X2_endsBound ({ frames := 1, cells := 0, slots := 0, locals := 23 } : Room) [.ref (q 38)] (wX q d I A) (fun v _ w' => ∃ y0 : Int32, FE (fX2_endsBound I A) y0 ∧ v = some (.int y0) ∧ w' = wX q d I A) 0 0 := by
  refine GM.of (cc := cX2_endsBound) (maxL := 2) (ret := (some .int)) (own := RX2) (lv := [(0, .ref (q 38))]) (by decide) rfl rfl (Nat.le_of_ble_eq_true rfl) rfl (fun κ sz hk hR hN => ?_)
  have hin2 : ∀ w ∈ u_ws RX2 TX2 10, w ∈ wz_k239_X2_endsBound := fun w h => (List.mem_cons_of_mem _ (List.mem_append_right _ (List.mem_append_left _ h)))
  have hF : FE (fX2_endsBound I A) (fX2_endsBound I A) := FE.rf
  refine g_aload_n hk dX2_endsBound_0 rfl ?_
  refine gX_i30 (v := (I 30)) hk hin2 (List.mem_cons_of_mem _ (List.mem_append_left _ (List.mem_of_getElem? (i := 0) rfl))) dX2_endsBound_1 rfl ?_
  have f4101 := IvX_f30 hIv
  refine g_iconst (v := 1) hk dX2_endsBound_4 (by decide) ?_
  refine g_isub hk dX2_endsBound_5 ?_
  refine g_topi (fun y4102 ey4102 => ?_)
  replace hF := FE.lt hF ey4102
  have hy4102 : y4102.toInt = (I 30).toInt - 1 := i32_sub ey4102 rfl rfl (by omega) (by omega)
  refine g_istore_n (lv' := [(1, .int y4102), (0, .ref (q 38))]) hk dX2_endsBound_6 (by decide) rfl ?_
  refine g_aload_n hk dX2_endsBound_7 rfl ?_
  refine g_aload_n hk dX2_endsBound_8 rfl ?_
  refine gX_r38_0 hk hin2 (List.mem_cons_of_mem _ (List.mem_append_left _ (List.mem_of_getElem? (i := 1) rfl))) dX2_endsBound_9 ?_
  refine g_iconst (v := 0) hk dX2_endsBound_12 (by decide) ?_
  refine lX_21 (v := (A 21 0)) hk (vp_in_iff.mpr ⟨by decide, by decide⟩) rfl dX2_endsBound_13 ?_
  refine g_aload_n hk dX2_endsBound_14 rfl ?_
  refine gX_r38_1 hk hin2 (List.mem_cons_of_mem _ (List.mem_append_left _ (List.mem_of_getElem? (i := 2) rfl))) dX2_endsBound_15 ?_
  refine g_iconst (v := 0) hk dX2_endsBound_18 (by decide) ?_
  refine lX_22 (v := (A 22 0)) hk (vp_in_iff.mpr ⟨by decide, by decide⟩) rfl dX2_endsBound_19 ?_
  refine g_callV (n := 2) hk (k235_X2_costOf l D zt q d I A (A 21 0) (A 22 0) hIv) (SP.same _) (fun _ h => h) (gi_V (List.mem_cons_of_mem _ (List.mem_append_left _ (List.mem_of_getElem? (i := 3) rfl))) (List.mem_cons_of_mem _ (List.mem_append_left _ (List.mem_of_getElem? (i := 4) rfl))) (List.mem_cons_of_mem _ (List.mem_append_left _ (List.mem_of_getElem? (i := 5) rfl))) (List.mem_cons_of_mem _ (List.mem_append_left _ (List.mem_of_getElem? (i := 6) rfl))) (gi_sub (fun w h => (List.mem_cons_of_mem _ (List.mem_append_right _ (List.mem_append_right _ (List.mem_append_left _ h))))) zg_k235_X2_costOf)) rfl rfl rfl (by decide +kernel) ⟨Nat.le_of_ble_eq_true rfl, Nat.le_of_ble_eq_true rfl⟩ 38 rfl rfl rfl rfl (Nat.le_of_ble_eq_true rfl) ⟨Nat.le_of_ble_eq_true rfl, Nat.le_of_ble_eq_true rfl⟩ dX2_endsBound_20 (fun v ty' w' hp hk' => ?_)
  obtain ⟨y4103, hC, rfl, rfl⟩ := hp
  replace hF := FE.lt hF (fe_s hC)
  show GW κ 2 0 0 (wX q d I A) 23 [(1, .int y4102), (0, .ref (q 38))] [.int y4103]
  refine g_aload_n hk dX2_endsBound_23 rfl ?_
  refine g_aload_n hk dX2_endsBound_24 rfl ?_
  refine gX_r38_0 hk hin2 (List.mem_cons_of_mem _ (List.mem_append_left _ (List.mem_of_getElem? (i := 1) rfl))) dX2_endsBound_25 ?_
  refine g_iload_n hk dX2_endsBound_28 rfl ?_
  refine lX_21 (v := (A 21 y4102.toNatClampNeg)) hk (vp_in_iff.mpr ⟨by omega, by omega⟩) rfl dX2_endsBound_29 ?_
  refine g_aload_n hk dX2_endsBound_30 rfl ?_
  refine gX_r38_1 hk hin2 (List.mem_cons_of_mem _ (List.mem_append_left _ (List.mem_of_getElem? (i := 2) rfl))) dX2_endsBound_31 ?_
  refine g_iload_n hk dX2_endsBound_34 rfl ?_
  refine lX_22 (v := (A 22 y4102.toNatClampNeg)) hk (vp_in_iff.mpr ⟨by omega, by omega⟩) rfl dX2_endsBound_35 ?_
  refine g_callV (n := 2) hk (k235_X2_costOf l D zt q d I A (A 21 y4102.toNatClampNeg) (A 22 y4102.toNatClampNeg) hIv) (SP.same _) (fun _ h => h) (gi_V (List.mem_cons_of_mem _ (List.mem_append_left _ (List.mem_of_getElem? (i := 3) rfl))) (List.mem_cons_of_mem _ (List.mem_append_left _ (List.mem_of_getElem? (i := 4) rfl))) (List.mem_cons_of_mem _ (List.mem_append_left _ (List.mem_of_getElem? (i := 5) rfl))) (List.mem_cons_of_mem _ (List.mem_append_left _ (List.mem_of_getElem? (i := 6) rfl))) (gi_sub (fun w h => (List.mem_cons_of_mem _ (List.mem_append_right _ (List.mem_append_right _ (List.mem_append_left _ h))))) zg_k235_X2_costOf)) rfl rfl rfl (by decide +kernel) ⟨Nat.le_of_ble_eq_true rfl, Nat.le_of_ble_eq_true rfl⟩ 38 rfl rfl rfl rfl (Nat.le_of_ble_eq_true rfl) ⟨Nat.le_of_ble_eq_true rfl, Nat.le_of_ble_eq_true rfl⟩ dX2_endsBound_36 (fun v ty' w' hp hk' => ?_)
  obtain ⟨y4104, hC, rfl, rfl⟩ := hp
  replace hF := FE.lt hF (fe_s hC)
  show GW κ 2 0 0 (wX q d I A) 39 [(1, .int y4102), (0, .ref (q 38))] [.int y4104, .int y4103]
  have b4105l := Int32.le_toInt y4103
  have b4105h := Int32.toInt_lt y4103
  have b4106l := Int32.le_toInt y4104
  have b4106h := Int32.toInt_lt y4104
  refine g_iadd hk dX2_endsBound_39 ?_
  refine g_topi (fun y4107 ey4107 => ?_)
  replace hF := FE.lt hF ey4107
  have b4108l := Int32.le_toInt y4107
  have b4108h := Int32.toInt_lt y4107
  exact g_iret hk hR rfl ⟨y4107, hF, rfl, rfl⟩ dX2_endsBound_40
noncomputable def bX2_outsideCost_45 (y4128 : Int32) (z1 : Int32) (I : Nat → Int32) (A : Nat → Nat → Int32) : (Int32 → Int32 → Int32 → (Int32)) → Int32 → Int32 → Int32 → (Int32) := fun kk4177 x4130 x4131 x4132 => if y4128.toInt < x4130.toInt then if z1.toInt ≤ x4131.toInt then if x4132.toInt ≤ z1.toInt then 0 else f_lt (fX2_costOf I A z1 x4132) fun y4186 => y4186 else f_lt (fX2_costOf I A z1 x4131) fun y4188 => y4188 else if x4132.toInt ≤ (A 21 x4130.toNatClampNeg).toInt then if (A 21 x4130.toNatClampNeg).toInt ≤ x4131.toInt then f_lt (x4130 + Int32.ofInt 1) fun y4195 => kk4177 y4195 x4131 x4132 else f_lt (x4130 + Int32.ofInt 1) fun y4196 => kk4177 y4196 (A 21 x4130.toNatClampNeg) x4132 else f_lt (x4130 + Int32.ofInt 1) fun y4197 => kk4177 y4197 x4131 (A 21 x4130.toNatClampNeg)
noncomputable def fX2_outsideCost (I : Nat → Int32) (A : Nat → Nat → Int32) (z1 : Int32) (z3 : Int32) : Int32 := f_lt (z3 - (I 31)) fun y4121 => f_lt (if (0 : Int32) < y4121 then y4121 else (0 : Int32)) fun y4122 => f_lt ((I 30) - (1 : Int32)) fun y4125 => f_lt (z3 + (I 31)) fun y4126 => f_lt (if y4126 < y4125 then y4126 else y4125) fun y4128 => f_lt (y4122 + (1 : Int32)) fun y4129 => itr_iii (0 : Int32) (bX2_outsideCost_45 y4128 z1 I A) FU y4129 (A 21 y4122.toNatClampNeg) (A 21 y4122.toNatClampNeg)
def wo_k242_X2_outsideCost : List Cond := [Cond.fieldLink RX2 37 "WarpDesk$Fit" "band" "I", Cond.methodLink RX2 34 Lib.Math.max.name, Cond.static Lib.Math.max.name, Cond.initialized "java/lang/Math", Cond.code Lib.Math.max.name Lib.Math.max.code 2 (some .int), Cond.fieldLink RX2 24 "WarpDesk$Fit" "length" "I", Cond.methodLink RX2 28 Lib.Math.min.name, Cond.static Lib.Math.min.name, Cond.code Lib.Math.min.name Lib.Math.min.code 2 (some .int), Cond.methodLink RX2 65 yX2_costOf, Cond.instanceMethod yX2_costOf, Cond.selects RX2 yX2_costOf yX2_costOf, Cond.initialized RX2]
def wz_k242_X2_outsideCost : List Cond := .code yX2_outsideCost cX2_outsideCost 10 (some .int) :: (wo_k242_X2_outsideCost ++ (wsX20 ++ (wz_k235_X2_costOf ++ ([] : List Cond))))
theorem zg_k242_X2_outsideCost : ∀ w ∈ wz_k242_X2_outsideCost, goodWord w = true := zg_cons rfl (zg_app (by decide +kernel) (zg_app zgU_wsX20 (zg_app zg_k235_X2_costOf zg_nil)))
theorem zi_k242_X2_outsideCost : ∀ w ∈ wz_k242_X2_outsideCost, w ∈ lw_tbl := zi_cons zw_1036 (zi_app (zi_cons zw_344 (zi_cons zw_943 (zi_cons zw_920 (zi_cons zw_120 (zi_cons zw_921 (zi_cons zw_343 (zi_cons zw_942 (zi_cons zw_829 (zi_cons zw_830 (zi_cons zw_1005 (zi_cons zw_1007 (zi_cons zw_30 (zi_cons zw_112 zi_nil))))))))))))) (zi_app inX2 (zi_app zi_k235_X2_costOf zi_nil)))
set_option maxHeartbeats 4000000 in
set_option maxRecDepth 100000 in
theorem k242_X2_outsideCost (l : Launch) (D : va_G) (zt : Nat × Nat × Nat × (Nat → Nat) × (Nat → Nat)) (q : Nat → Nat) (d : Nat → ClassId) (I : Nat → Int32) (A : Nat → Nat → Int32) (z1 : Int32) (z3 : Int32) (hIv : IvX I A) (hp0 : 0 ≤ z3.toInt) (hp1 : z3.toInt ≤ 15) : GM l D zt (tyX d) yX2_outsideCost wz_k242_X2_outsideCost ({ frames := 1, cells := 0, slots := 0, locals := 23 } : Room) [.ref (q 38), .int z1, .ref (q 39), .int z3] (wX q d I A) (fun v _ w' => ∃ y0 : Int32, FE (fX2_outsideCost I A z1 z3) y0 ∧ v = some (.int y0) ∧ w' = wX q d I A) 0 0 := by
  refine GM.of (cc := cX2_outsideCost) (maxL := 10) (ret := (some .int)) (own := RX2) (lv := [(0, .ref (q 38)), (1, .int z1), (2, .ref (q 39)), (3, .int z3)]) (by decide) rfl rfl (Nat.le_of_ble_eq_true rfl) rfl (fun κ sz hk hR hN => ?_)
  have hin2 : ∀ w ∈ u_ws RX2 TX2 10, w ∈ wz_k242_X2_outsideCost := fun w h => (List.mem_cons_of_mem _ (List.mem_append_right _ (List.mem_append_left _ h)))
  have hF : FE (fX2_outsideCost I A z1 z3) (fX2_outsideCost I A z1 z3) := FE.rf
  refine g_iconst (v := 0) hk dX2_outsideCost_0 (by decide) ?_
  refine g_iload_n hk dX2_outsideCost_1 rfl ?_
  refine g_aload_n hk dX2_outsideCost_2 rfl ?_
  refine gX_i31 (v := (I 31)) hk hin2 (List.mem_cons_of_mem _ (List.mem_append_left _ (List.mem_of_getElem? (i := 0) rfl))) dX2_outsideCost_3 rfl ?_
  have f4119 := IvX_f31 hIv
  have b4120l := Int32.le_toInt (I 31)
  have b4120h := Int32.toInt_lt (I 31)
  refine g_isub hk dX2_outsideCost_6 ?_
  refine g_topi (fun y4121 ey4121 => ?_)
  replace hF := FE.lt hF ey4121
  have hy4121 : y4121.toInt = z3.toInt - (I 31).toInt := i32_sub ey4121 rfl rfl (by omega) (by omega)
  refine g_mmax hk (List.mem_cons_of_mem _ (List.mem_append_left _ (List.mem_of_getElem? (i := 1) rfl))) (List.mem_cons_of_mem _ (List.mem_append_left _ (List.mem_of_getElem? (i := 2) rfl))) (List.mem_cons_of_mem _ (List.mem_append_left _ (List.mem_of_getElem? (i := 3) rfl))) (List.mem_cons_of_mem _ (List.mem_append_left _ (List.mem_of_getElem? (i := 4) rfl))) (Nat.le_of_ble_eq_true rfl) (Nat.le_of_ble_eq_true rfl) (Nat.le_of_ble_eq_true rfl) (Nat.le_of_ble_eq_true rfl) dX2_outsideCost_7 ?_
  refine g_topi (fun y4122 ey4122 => ?_)
  replace hF := FE.lt hF ey4122
  have k4123 : (0 : Int32).toInt = 0 := rfl
  have hy4122 := i32_max ey4122
  refine g_istore (lv' := [(4, .int y4122), (0, .ref (q 38)), (1, .int z1), (2, .ref (q 39)), (3, .int z3)]) hk dX2_outsideCost_10 (by decide) rfl ?_
  refine g_aload_n hk dX2_outsideCost_12 rfl ?_
  refine gX_i30 (v := (I 30)) hk hin2 (List.mem_cons_of_mem _ (List.mem_append_left _ (List.mem_of_getElem? (i := 5) rfl))) dX2_outsideCost_13 rfl ?_
  have f4124 := IvX_f30 hIv
  refine g_iconst (v := 1) hk dX2_outsideCost_16 (by decide) ?_
  refine g_isub hk dX2_outsideCost_17 ?_
  refine g_topi (fun y4125 ey4125 => ?_)
  replace hF := FE.lt hF ey4125
  have hy4125 : y4125.toInt = (I 30).toInt - 1 := i32_sub ey4125 rfl rfl (by omega) (by omega)
  refine g_iload_n hk dX2_outsideCost_18 rfl ?_
  refine g_aload_n hk dX2_outsideCost_19 rfl ?_
  refine gX_i31 (v := (I 31)) hk hin2 (List.mem_cons_of_mem _ (List.mem_append_left _ (List.mem_of_getElem? (i := 0) rfl))) dX2_outsideCost_20 rfl ?_
  refine g_iadd hk dX2_outsideCost_23 ?_
  refine g_topi (fun y4126 ey4126 => ?_)
  replace hF := FE.lt hF ey4126
  have b4127l := Int32.le_toInt y4126
  have b4127h := Int32.toInt_lt y4126
  refine g_mmin hk (List.mem_cons_of_mem _ (List.mem_append_left _ (List.mem_of_getElem? (i := 6) rfl))) (List.mem_cons_of_mem _ (List.mem_append_left _ (List.mem_of_getElem? (i := 7) rfl))) (List.mem_cons_of_mem _ (List.mem_append_left _ (List.mem_of_getElem? (i := 3) rfl))) (List.mem_cons_of_mem _ (List.mem_append_left _ (List.mem_of_getElem? (i := 8) rfl))) (Nat.le_of_ble_eq_true rfl) (Nat.le_of_ble_eq_true rfl) (Nat.le_of_ble_eq_true rfl) (Nat.le_of_ble_eq_true rfl) dX2_outsideCost_24 ?_
  refine g_topi (fun y4128 ey4128 => ?_)
  replace hF := FE.lt hF ey4128
  have hy4128 := i32_min ey4128
  refine g_istore (lv' := [(5, .int y4128), (4, .int y4122), (0, .ref (q 38)), (1, .int z1), (2, .ref (q 39)), (3, .int z3)]) hk dX2_outsideCost_27 (by decide) rfl ?_
  refine g_aload_n hk dX2_outsideCost_29 rfl ?_
  refine g_iload hk dX2_outsideCost_30 rfl ?_
  refine lX_21 (v := (A 21 y4122.toNatClampNeg)) hk (vp_in_iff.mpr ⟨by omega, by omega⟩) rfl dX2_outsideCost_32 ?_
  refine g_istore (lv' := [(6, .int (A 21 y4122.toNatClampNeg)), (5, .int y4128), (4, .int y4122), (0, .ref (q 38)), (1, .int z1), (2, .ref (q 39)), (3, .int z3)]) hk dX2_outsideCost_33 (by decide) rfl ?_
  refine g_iload hk dX2_outsideCost_35 rfl ?_
  refine g_istore (lv' := [(7, .int (A 21 y4122.toNatClampNeg)), (6, .int (A 21 y4122.toNatClampNeg)), (5, .int y4128), (4, .int y4122), (0, .ref (q 38)), (1, .int z1), (2, .ref (q 39)), (3, .int z3)]) hk dX2_outsideCost_37 (by decide) rfl ?_
  refine g_iload hk dX2_outsideCost_39 rfl ?_
  refine g_iconst (v := 1) hk dX2_outsideCost_41 (by decide) ?_
  refine g_iadd hk dX2_outsideCost_42 ?_
  refine g_topi (fun y4129 ey4129 => ?_)
  replace hF := FE.lt hF ey4129
  have hy4129 : y4129.toInt = y4122.toInt + 1 := i32_add ey4129 rfl rfl (by omega) (by omega)
  refine g_istore (lv' := [(8, .int y4129), (7, .int (A 21 y4122.toNatClampNeg)), (6, .int (A 21 y4122.toNatClampNeg)), (5, .int y4128), (4, .int y4122), (0, .ref (q 38)), (1, .int z1), (2, .ref (q 39)), (3, .int z3)]) hk dX2_outsideCost_43 (by decide) rfl ?_
  have lp4174 : ∀ (n4175 : Nat) (x4130 : Int32) (x4131 : Int32) (x4132 : Int32), (1 ≤ x4130.toInt) → (x4130.toInt ≤ 16) → (16 - x4130.toInt < (n4175 : Int)) → (0 < n4175) → (FE (fX2_outsideCost I A z1 z3) (itr_iii (0 : Int32) (bX2_outsideCost_45 y4128 z1 I A) n4175 x4130 x4131 x4132)) → GW κ 10 0 0 (wX q d I A) 45 [(8, .int x4130), (7, .int x4131), (6, .int x4132), (5, .int y4128), (4, .int y4122), (0, .ref (q 38)), (1, .int z1), (2, .ref (q 39)), (3, .int z3)] [] := by
    intro n4175
    induction n4175 with
    | zero =>
      intro x4130 x4131 x4132 h4172 h4173 m4176 m4176z hF
      exact absurd m4176z (Nat.lt_irrefl 0)
    | succ n4175 ih4178 =>
      intro x4130 x4131 x4132 h4172 h4173 m4176 m4176z hF
      replace hF := FE.itr_iii hF
      refine g_iload hk dX2_outsideCost_45 rfl ?_
      refine g_iload hk dX2_outsideCost_47 rfl ?_
      have b4179l := Int32.le_toInt y4128
      have b4179h := Int32.toInt_lt y4128
      refine g_icmp_gt (tgt := 89) (a := x4130.toInt) (b := y4128.toInt) hk dX2_outsideCost_49 (by decide) rfl rfl (fun c4180 => ?_) (fun c4180 => ?_)
      · skip
        replace hF := FE.pos hF c4180
        refine g_iload_n hk dX2_outsideCost_89 rfl ?_
        refine g_iload hk dX2_outsideCost_90 rfl ?_
        have b4181l := Int32.le_toInt z1
        have b4181h := Int32.toInt_lt z1
        have b4182l := Int32.le_toInt x4131
        have b4182h := Int32.toInt_lt x4131
        refine g_icmp_le (tgt := 103) (a := z1.toInt) (b := x4131.toInt) hk dX2_outsideCost_92 (by decide) rfl rfl (fun c4183 => ?_) (fun c4183 => ?_)
        · skip
          replace hF := FE.pos hF c4183
          refine g_iload_n hk dX2_outsideCost_103 rfl ?_
          refine g_iload hk dX2_outsideCost_104 rfl ?_
          have b4184l := Int32.le_toInt x4132
          have b4184h := Int32.toInt_lt x4132
          refine g_icmp_ge (tgt := 119) (a := z1.toInt) (b := x4132.toInt) hk dX2_outsideCost_106 (by decide) rfl rfl (fun c4185 => ?_) (fun c4185 => ?_)
          · skip
            replace hF := FE.pos hF c4185
            refine g_iconst (v := 0) hk dX2_outsideCost_119 (by decide) ?_
            exact g_iret hk hR rfl ⟨0, hF, rfl, rfl⟩ dX2_outsideCost_120
          · skip
            replace hF := FE.neg hF c4185
            refine g_aload_n hk dX2_outsideCost_109 rfl ?_
            refine g_iload_n hk dX2_outsideCost_110 rfl ?_
            refine g_iload hk dX2_outsideCost_111 rfl ?_
            refine g_callV (n := 2) hk (k235_X2_costOf l D zt q d I A z1 x4132 hIv) (SP.same _) (fun _ h => h) (gi_V (List.mem_cons_of_mem _ (List.mem_append_left _ (List.mem_of_getElem? (i := 9) rfl))) (List.mem_cons_of_mem _ (List.mem_append_left _ (List.mem_of_getElem? (i := 10) rfl))) (List.mem_cons_of_mem _ (List.mem_append_left _ (List.mem_of_getElem? (i := 11) rfl))) (List.mem_cons_of_mem _ (List.mem_append_left _ (List.mem_of_getElem? (i := 12) rfl))) (gi_sub (fun w h => (List.mem_cons_of_mem _ (List.mem_append_right _ (List.mem_append_right _ (List.mem_append_left _ h))))) zg_k235_X2_costOf)) rfl rfl rfl (by decide +kernel) ⟨Nat.le_of_ble_eq_true rfl, Nat.le_of_ble_eq_true rfl⟩ 38 rfl rfl rfl rfl (Nat.le_of_ble_eq_true rfl) ⟨Nat.le_of_ble_eq_true rfl, Nat.le_of_ble_eq_true rfl⟩ dX2_outsideCost_113 (fun v ty' w' hp hk' => ?_)
            obtain ⟨y4186, hC, rfl, rfl⟩ := hp
            replace hF := FE.lt hF (fe_s hC)
            show GW κ 10 0 0 (wX q d I A) 116 [(8, .int x4130), (7, .int x4131), (6, .int x4132), (5, .int y4128), (4, .int y4122), (0, .ref (q 38)), (1, .int z1), (2, .ref (q 39)), (3, .int z3)] [.int y4186]
            refine g_goto (tgt := 120) hk dX2_outsideCost_116 (by decide) ?_
            have b4187l := Int32.le_toInt y4186
            have b4187h := Int32.toInt_lt y4186
            exact g_iret hk hR rfl ⟨y4186, hF, rfl, rfl⟩ dX2_outsideCost_120
        · skip
          replace hF := FE.neg hF c4183
          refine g_aload_n hk dX2_outsideCost_95 rfl ?_
          refine g_iload_n hk dX2_outsideCost_96 rfl ?_
          refine g_iload hk dX2_outsideCost_97 rfl ?_
          refine g_callV (n := 2) hk (k235_X2_costOf l D zt q d I A z1 x4131 hIv) (SP.same _) (fun _ h => h) (gi_V (List.mem_cons_of_mem _ (List.mem_append_left _ (List.mem_of_getElem? (i := 9) rfl))) (List.mem_cons_of_mem _ (List.mem_append_left _ (List.mem_of_getElem? (i := 10) rfl))) (List.mem_cons_of_mem _ (List.mem_append_left _ (List.mem_of_getElem? (i := 11) rfl))) (List.mem_cons_of_mem _ (List.mem_append_left _ (List.mem_of_getElem? (i := 12) rfl))) (gi_sub (fun w h => (List.mem_cons_of_mem _ (List.mem_append_right _ (List.mem_append_right _ (List.mem_append_left _ h))))) zg_k235_X2_costOf)) rfl rfl rfl (by decide +kernel) ⟨Nat.le_of_ble_eq_true rfl, Nat.le_of_ble_eq_true rfl⟩ 38 rfl rfl rfl rfl (Nat.le_of_ble_eq_true rfl) ⟨Nat.le_of_ble_eq_true rfl, Nat.le_of_ble_eq_true rfl⟩ dX2_outsideCost_99 (fun v ty' w' hp hk' => ?_)
          obtain ⟨y4188, hC, rfl, rfl⟩ := hp
          replace hF := FE.lt hF (fe_s hC)
          show GW κ 10 0 0 (wX q d I A) 102 [(8, .int x4130), (7, .int x4131), (6, .int x4132), (5, .int y4128), (4, .int y4122), (0, .ref (q 38)), (1, .int z1), (2, .ref (q 39)), (3, .int z3)] [.int y4188]
          have b4189l := Int32.le_toInt y4188
          have b4189h := Int32.toInt_lt y4188
          exact g_iret hk hR rfl ⟨y4188, hF, rfl, rfl⟩ dX2_outsideCost_102
      · skip
        replace hF := FE.neg hF c4180
        refine g_aload_n hk dX2_outsideCost_52 rfl ?_
        refine g_iload hk dX2_outsideCost_53 rfl ?_
        refine lX_21 (v := (A 21 x4130.toNatClampNeg)) hk (vp_in_iff.mpr ⟨by omega, by omega⟩) rfl dX2_outsideCost_55 ?_
        refine g_istore (lv' := [(9, .int (A 21 x4130.toNatClampNeg)), (8, .int x4130), (7, .int x4131), (6, .int x4132), (5, .int y4128), (4, .int y4122), (0, .ref (q 38)), (1, .int z1), (2, .ref (q 39)), (3, .int z3)]) hk dX2_outsideCost_56 (by decide) rfl ?_
        refine g_iload hk dX2_outsideCost_58 rfl ?_
        refine g_iload hk dX2_outsideCost_60 rfl ?_
        have b4190l := Int32.le_toInt (A 21 x4130.toNatClampNeg)
        have b4190h := Int32.toInt_lt (A 21 x4130.toNatClampNeg)
        have b4191l := Int32.le_toInt x4132
        have b4191h := Int32.toInt_lt x4132
        refine g_icmp_ge (tgt := 72) (a := (A 21 x4130.toNatClampNeg).toInt) (b := x4132.toInt) hk dX2_outsideCost_62 (by decide) rfl rfl (fun c4192 => ?_) (fun c4192 => ?_)
        · skip
          replace hF := FE.pos hF c4192
          refine g_iload hk dX2_outsideCost_72 rfl ?_
          refine g_iload hk dX2_outsideCost_74 rfl ?_
          have b4193l := Int32.le_toInt x4131
          have b4193h := Int32.toInt_lt x4131
          refine g_icmp_le (tgt := 83) (a := (A 21 x4130.toNatClampNeg).toInt) (b := x4131.toInt) hk dX2_outsideCost_76 (by decide) rfl rfl (fun c4194 => ?_) (fun c4194 => ?_)
          · skip
            replace hF := FE.pos hF c4194
            obtain ⟨y4195, ey4195⟩ : ∃ y : Int32, y = x4130 + Int32.ofInt 1 := ⟨_, rfl⟩
            replace hF := FE.lt hF ey4195
            have hy4195 : y4195.toInt = x4130.toInt + 1 := i32_add ey4195 rfl (by decide) (by omega) (by omega)
            refine g_iinc (v := y4195) (lv' := [(8, .int y4195), (9, .int (A 21 x4130.toNatClampNeg)), (7, .int x4131), (6, .int x4132), (5, .int y4128), (4, .int y4122), (0, .ref (q 38)), (1, .int z1), (2, .ref (q 39)), (3, .int z3)]) hk 1 dX2_outsideCost_83 rfl ey4195.symm (by decide) rfl ?_
            refine g_goto (tgt := 45) hk dX2_outsideCost_86 (by decide) ?_
            exact g_lv (List.forall_mem_cons.mpr ⟨List.mem_of_getElem? (i := 0) rfl, (List.forall_mem_cons.mpr ⟨List.mem_of_getElem? (i := 2) rfl, (List.forall_mem_cons.mpr ⟨List.mem_of_getElem? (i := 3) rfl, (List.forall_mem_cons.mpr ⟨List.mem_of_getElem? (i := 4) rfl, (List.forall_mem_cons.mpr ⟨List.mem_of_getElem? (i := 5) rfl, (List.forall_mem_cons.mpr ⟨List.mem_of_getElem? (i := 6) rfl, (List.forall_mem_cons.mpr ⟨List.mem_of_getElem? (i := 7) rfl, (List.forall_mem_cons.mpr ⟨List.mem_of_getElem? (i := 8) rfl, (List.forall_mem_cons.mpr ⟨List.mem_of_getElem? (i := 9) rfl, (fun _ h => absurd h List.not_mem_nil)⟩)⟩)⟩)⟩)⟩)⟩)⟩)⟩)⟩) (ih4178 y4195 x4131 x4132 (by omega) (by omega) (by omega) (by omega) hF)
          · skip
            replace hF := FE.neg hF c4194
            refine g_iload hk dX2_outsideCost_79 rfl ?_
            refine g_istore (lv' := [(7, .int (A 21 x4130.toNatClampNeg)), (9, .int (A 21 x4130.toNatClampNeg)), (8, .int x4130), (6, .int x4132), (5, .int y4128), (4, .int y4122), (0, .ref (q 38)), (1, .int z1), (2, .ref (q 39)), (3, .int z3)]) hk dX2_outsideCost_81 (by decide) rfl ?_
            obtain ⟨y4196, ey4196⟩ : ∃ y : Int32, y = x4130 + Int32.ofInt 1 := ⟨_, rfl⟩
            replace hF := FE.lt hF ey4196
            have hy4196 : y4196.toInt = x4130.toInt + 1 := i32_add ey4196 rfl (by decide) (by omega) (by omega)
            refine g_iinc (v := y4196) (lv' := [(8, .int y4196), (7, .int (A 21 x4130.toNatClampNeg)), (9, .int (A 21 x4130.toNatClampNeg)), (6, .int x4132), (5, .int y4128), (4, .int y4122), (0, .ref (q 38)), (1, .int z1), (2, .ref (q 39)), (3, .int z3)]) hk 2 dX2_outsideCost_83 rfl ey4196.symm (by decide) rfl ?_
            refine g_goto (tgt := 45) hk dX2_outsideCost_86 (by decide) ?_
            exact g_lv (List.forall_mem_cons.mpr ⟨List.mem_of_getElem? (i := 0) rfl, (List.forall_mem_cons.mpr ⟨List.mem_of_getElem? (i := 1) rfl, (List.forall_mem_cons.mpr ⟨List.mem_of_getElem? (i := 3) rfl, (List.forall_mem_cons.mpr ⟨List.mem_of_getElem? (i := 4) rfl, (List.forall_mem_cons.mpr ⟨List.mem_of_getElem? (i := 5) rfl, (List.forall_mem_cons.mpr ⟨List.mem_of_getElem? (i := 6) rfl, (List.forall_mem_cons.mpr ⟨List.mem_of_getElem? (i := 7) rfl, (List.forall_mem_cons.mpr ⟨List.mem_of_getElem? (i := 8) rfl, (List.forall_mem_cons.mpr ⟨List.mem_of_getElem? (i := 9) rfl, (fun _ h => absurd h List.not_mem_nil)⟩)⟩)⟩)⟩)⟩)⟩)⟩)⟩)⟩) (ih4178 y4196 (A 21 x4130.toNatClampNeg) x4132 (by omega) (by omega) (by omega) (by omega) hF)
        · skip
          replace hF := FE.neg hF c4192
          refine g_iload hk dX2_outsideCost_65 rfl ?_
          refine g_istore (lv' := [(6, .int (A 21 x4130.toNatClampNeg)), (9, .int (A 21 x4130.toNatClampNeg)), (8, .int x4130), (7, .int x4131), (5, .int y4128), (4, .int y4122), (0, .ref (q 38)), (1, .int z1), (2, .ref (q 39)), (3, .int z3)]) hk dX2_outsideCost_67 (by decide) rfl ?_
          refine g_goto (tgt := 83) hk dX2_outsideCost_69 (by decide) ?_
          obtain ⟨y4197, ey4197⟩ : ∃ y : Int32, y = x4130 + Int32.ofInt 1 := ⟨_, rfl⟩
          replace hF := FE.lt hF ey4197
          have hy4197 : y4197.toInt = x4130.toInt + 1 := i32_add ey4197 rfl (by decide) (by omega) (by omega)
          refine g_iinc (v := y4197) (lv' := [(8, .int y4197), (6, .int (A 21 x4130.toNatClampNeg)), (9, .int (A 21 x4130.toNatClampNeg)), (7, .int x4131), (5, .int y4128), (4, .int y4122), (0, .ref (q 38)), (1, .int z1), (2, .ref (q 39)), (3, .int z3)]) hk 2 dX2_outsideCost_83 rfl ey4197.symm (by decide) rfl ?_
          refine g_goto (tgt := 45) hk dX2_outsideCost_86 (by decide) ?_
          exact g_lv (List.forall_mem_cons.mpr ⟨List.mem_of_getElem? (i := 0) rfl, (List.forall_mem_cons.mpr ⟨List.mem_of_getElem? (i := 3) rfl, (List.forall_mem_cons.mpr ⟨List.mem_of_getElem? (i := 1) rfl, (List.forall_mem_cons.mpr ⟨List.mem_of_getElem? (i := 4) rfl, (List.forall_mem_cons.mpr ⟨List.mem_of_getElem? (i := 5) rfl, (List.forall_mem_cons.mpr ⟨List.mem_of_getElem? (i := 6) rfl, (List.forall_mem_cons.mpr ⟨List.mem_of_getElem? (i := 7) rfl, (List.forall_mem_cons.mpr ⟨List.mem_of_getElem? (i := 8) rfl, (List.forall_mem_cons.mpr ⟨List.mem_of_getElem? (i := 9) rfl, (fun _ h => absurd h List.not_mem_nil)⟩)⟩)⟩)⟩)⟩)⟩)⟩)⟩)⟩) (ih4178 y4197 x4131 (A 21 x4130.toNatClampNeg) (by omega) (by omega) (by omega) (by omega) hF)
  have b4199l := Int32.le_toInt (A 21 y4122.toNatClampNeg)
  have b4199h := Int32.toInt_lt (A 21 y4122.toNatClampNeg)
  have b4200 := Int32.le_toInt y4129
  have b4201 := Int32.toInt_lt y4129
  have n4198a : 16 - y4129.toInt < (FU : Int) := by have := FU_eq; omega
  have n4198b : 0 < FU := by have := FU_eq; omega
  exact lp4174 FU y4129 (A 21 y4122.toNatClampNeg) (A 21 y4122.toNatClampNeg) (by omega) (by omega) n4198a n4198b hF
noncomputable def bX2_envelopeBound_5 (I : Nat → Int32) (A : Nat → Nat → Int32) : (Int32 → Int32 → (Int32)) → Int32 → Int32 → (Int32) := fun kk4233 x4112 x4113 => if (I 30).toInt ≤ x4112.toInt then x4113 else f_lt (fX2_outsideCost I A (A 22 x4112.toNatClampNeg) x4112) fun y4238 => f_lt (x4113 + y4238) fun y4241 => f_lt (x4112 + Int32.ofInt 1) fun y4242 => kk4233 y4242 y4241
noncomputable def fX2_envelopeBound (I : Nat → Int32) (A : Nat → Nat → Int32) : Int32 := itr_ii (0 : Int32) (bX2_envelopeBound_5 I A) FU 0 0
def wo_k241_X2_envelopeBound : List Cond := [Cond.fieldLink RX2 24 "WarpDesk$Fit" "length" "I", Cond.methodLink RX2 72 yX2_outsideCost, Cond.instanceMethod yX2_outsideCost, Cond.selects RX2 yX2_outsideCost yX2_outsideCost, Cond.initialized RX2]
def wz_k241_X2_envelopeBound : List Cond := .code yX2_envelopeBound cX2_envelopeBound 5 (some .int) :: (wo_k241_X2_envelopeBound ++ (wsX20 ++ (wz_k242_X2_outsideCost ++ ([] : List Cond))))
theorem zg_k241_X2_envelopeBound : ∀ w ∈ wz_k241_X2_envelopeBound, goodWord w = true := zg_cons rfl (zg_app (by decide +kernel) (zg_app zgU_wsX20 (zg_app zg_k242_X2_outsideCost zg_nil)))
theorem zi_k241_X2_envelopeBound : ∀ w ∈ wz_k241_X2_envelopeBound, w ∈ lw_tbl := zi_cons zw_1032 (zi_app (zi_cons zw_343 (zi_cons zw_1033 (zi_cons zw_1035 (zi_cons zw_33 (zi_cons zw_112 zi_nil))))) (zi_app inX2 (zi_app zi_k242_X2_outsideCost zi_nil)))
set_option maxHeartbeats 4000000 in
set_option maxRecDepth 100000 in
theorem k241_X2_envelopeBound (l : Launch) (D : va_G) (zt : Nat × Nat × Nat × (Nat → Nat) × (Nat → Nat)) (q : Nat → Nat) (d : Nat → ClassId) (I : Nat → Int32) (A : Nat → Nat → Int32) (hIv : IvX I A) : GM l D zt (tyX d) yX2_envelopeBound wz_k241_X2_envelopeBound ({ frames := 2, cells := 0, slots := 0, locals := 52 } : Room) [.ref (q 38), .ref (q 40), .ref (q 39)] (wX q d I A) (fun v _ w' => ∃ y0 : Int32, FE (fX2_envelopeBound I A) y0 ∧ v = some (.int y0) ∧ w' = wX q d I A) 0 0 := by
  refine GM.of (cc := cX2_envelopeBound) (maxL := 5) (ret := (some .int)) (own := RX2) (lv := [(0, .ref (q 38)), (1, .ref (q 40)), (2, .ref (q 39))]) (by decide) rfl rfl (Nat.le_of_ble_eq_true rfl) rfl (fun κ sz hk hR hN => ?_)
  have hin2 : ∀ w ∈ u_ws RX2 TX2 10, w ∈ wz_k241_X2_envelopeBound := fun w h => (List.mem_cons_of_mem _ (List.mem_append_right _ (List.mem_append_left _ h)))
  have hF : FE (fX2_envelopeBound I A) (fX2_envelopeBound I A) := FE.rf
  refine g_iconst (v := 0) hk dX2_envelopeBound_0 (by decide) ?_
  refine g_istore_n (lv' := [(3, .int 0), (0, .ref (q 38)), (1, .ref (q 40)), (2, .ref (q 39))]) hk dX2_envelopeBound_1 (by decide) rfl ?_
  refine g_iconst (v := 0) hk dX2_envelopeBound_2 (by decide) ?_
  refine g_istore (lv' := [(4, .int 0), (3, .int 0), (0, .ref (q 38)), (1, .ref (q 40)), (2, .ref (q 39))]) hk dX2_envelopeBound_3 (by decide) rfl ?_
  have lp4230 : ∀ (n4231 : Nat) (x4112 : Int32) (x4113 : Int32), (0 ≤ x4112.toInt) → (x4112.toInt ≤ 16) → (17 - x4112.toInt < (n4231 : Int)) → (0 < n4231) → (FE (fX2_envelopeBound I A) (itr_ii (0 : Int32) (bX2_envelopeBound_5 I A) n4231 x4112 x4113)) → GW κ 5 0 0 (wX q d I A) 5 [(4, .int x4112), (3, .int x4113), (0, .ref (q 38)), (1, .ref (q 40)), (2, .ref (q 39))] [] := by
    intro n4231
    induction n4231 with
    | zero =>
      intro x4112 x4113 h4228 h4229 m4232 m4232z hF
      exact absurd m4232z (Nat.lt_irrefl 0)
    | succ n4231 ih4234 =>
      intro x4112 x4113 h4228 h4229 m4232 m4232z hF
      replace hF := FE.itr_ii hF
      refine g_iload hk dX2_envelopeBound_5 rfl ?_
      refine g_aload_n hk dX2_envelopeBound_7 rfl ?_
      refine gX_i30 (v := (I 30)) hk hin2 (List.mem_cons_of_mem _ (List.mem_append_left _ (List.mem_of_getElem? (i := 0) rfl))) dX2_envelopeBound_8 rfl ?_
      have f4235 := IvX_f30 hIv
      refine g_icmp_ge (tgt := 41) (a := x4112.toInt) (b := (I 30).toInt) hk dX2_envelopeBound_11 (by decide) rfl rfl (fun c4236 => ?_) (fun c4236 => ?_)
      · skip
        replace hF := FE.pos hF c4236
        refine g_iload_n hk dX2_envelopeBound_41 rfl ?_
        have b4237l := Int32.le_toInt x4113
        have b4237h := Int32.toInt_lt x4113
        exact g_iret hk hR rfl ⟨x4113, hF, rfl, rfl⟩ dX2_envelopeBound_42
      · skip
        replace hF := FE.neg hF c4236
        refine g_iload hk dX2_envelopeBound_14 rfl ?_
        refine g_aload_n hk dX2_envelopeBound_16 rfl ?_
        refine nX_22 hk dX2_envelopeBound_17 ?_
        refine g_icmp_ge (tgt := 41) (a := x4112.toInt) (b := 16) hk dX2_envelopeBound_18 (by decide) rfl rfl (fun z9 => absurd z9 (show ¬ (16 ≤ x4112.toInt) from by omega)) (fun _ => ?_)
        refine g_iload_n hk dX2_envelopeBound_21 rfl ?_
        refine g_aload_n hk dX2_envelopeBound_22 rfl ?_
        refine g_aload_n hk dX2_envelopeBound_23 rfl ?_
        refine g_iload hk dX2_envelopeBound_24 rfl ?_
        refine lX_22 (v := (A 22 x4112.toNatClampNeg)) hk (vp_in_iff.mpr ⟨by omega, by omega⟩) rfl dX2_envelopeBound_26 ?_
        refine g_aload_n hk dX2_envelopeBound_27 rfl ?_
        refine g_iload hk dX2_envelopeBound_28 rfl ?_
        refine g_callV (n := 3) hk (k242_X2_outsideCost l D zt q d I A (A 22 x4112.toNatClampNeg) x4112 hIv (by omega) (by omega)) (SP.same _) (fun _ h => h) (gi_V (List.mem_cons_of_mem _ (List.mem_append_left _ (List.mem_of_getElem? (i := 1) rfl))) (List.mem_cons_of_mem _ (List.mem_append_left _ (List.mem_of_getElem? (i := 2) rfl))) (List.mem_cons_of_mem _ (List.mem_append_left _ (List.mem_of_getElem? (i := 3) rfl))) (List.mem_cons_of_mem _ (List.mem_append_left _ (List.mem_of_getElem? (i := 4) rfl))) (gi_sub (fun w h => (List.mem_cons_of_mem _ (List.mem_append_right _ (List.mem_append_right _ (List.mem_append_left _ h))))) zg_k242_X2_outsideCost)) rfl rfl rfl (by decide +kernel) ⟨Nat.le_of_ble_eq_true rfl, Nat.le_of_ble_eq_true rfl⟩ 38 rfl rfl rfl rfl (Nat.le_of_ble_eq_true rfl) ⟨Nat.le_of_ble_eq_true rfl, Nat.le_of_ble_eq_true rfl⟩ dX2_envelopeBound_30 (fun v ty' w' hp hk' => ?_)
        obtain ⟨y4238, hC, rfl, rfl⟩ := hp
        replace hF := FE.lt hF (fe_s hC)
        show GW κ 5 0 0 (wX q d I A) 33 [(4, .int x4112), (3, .int x4113), (0, .ref (q 38)), (1, .ref (q 40)), (2, .ref (q 39))] [.int y4238, .int x4113]
        have b4239l := Int32.le_toInt x4113
        have b4239h := Int32.toInt_lt x4113
        have b4240l := Int32.le_toInt y4238
        have b4240h := Int32.toInt_lt y4238
        refine g_iadd hk dX2_envelopeBound_33 ?_
        refine g_topi (fun y4241 ey4241 => ?_)
        replace hF := FE.lt hF ey4241
        refine g_istore_n (lv' := [(3, .int y4241), (4, .int x4112), (0, .ref (q 38)), (1, .ref (q 40)), (2, .ref (q 39))]) hk dX2_envelopeBound_34 (by decide) rfl ?_
        obtain ⟨y4242, ey4242⟩ : ∃ y : Int32, y = x4112 + Int32.ofInt 1 := ⟨_, rfl⟩
        replace hF := FE.lt hF ey4242
        have hy4242 : y4242.toInt = x4112.toInt + 1 := i32_add ey4242 rfl (by decide) (by omega) (by omega)
        refine g_iinc (v := y4242) (lv' := [(4, .int y4242), (3, .int y4241), (0, .ref (q 38)), (1, .ref (q 40)), (2, .ref (q 39))]) hk 1 dX2_envelopeBound_35 rfl ey4242.symm (by decide) rfl ?_
        refine g_goto (tgt := 5) hk dX2_envelopeBound_38 (by decide) ?_
        exact g_lv (List.forall_mem_cons.mpr ⟨List.mem_of_getElem? (i := 0) rfl, (List.forall_mem_cons.mpr ⟨List.mem_of_getElem? (i := 1) rfl, (List.forall_mem_cons.mpr ⟨List.mem_of_getElem? (i := 2) rfl, (List.forall_mem_cons.mpr ⟨List.mem_of_getElem? (i := 3) rfl, (List.forall_mem_cons.mpr ⟨List.mem_of_getElem? (i := 4) rfl, (fun _ h => absurd h List.not_mem_nil)⟩)⟩)⟩)⟩)⟩) (ih4234 y4242 y4241 (by omega) (by omega) (by omega) (by omega) hF)
  have k4244 : (0 : Int32).toInt = 0 := rfl
  have n4243a : 17 - 0 < (FU : Int) := by have := FU_eq; omega
  have n4243b : 0 < FU := by have := FU_eq; omega
  exact lp4230 FU 0 0 (by omega) (by omega) n4243a n4243b hF
noncomputable def fX2_overBound (I : Nat → Int32) (A : Nat → Nat → Int32) : Int32 := f_lt (fX2_envelopeBound I A) fun y4245 => y4245
def wo_k240_X2_overBound : List Cond := [Cond.fieldLink RX2 15 "WarpDesk$Fit" "right" "[I", Cond.fieldLink RX2 9 "WarpDesk$Fit" "left" "[I", Cond.methodLink RX2 68 yX2_envelopeBound, Cond.instanceMethod yX2_envelopeBound, Cond.selects RX2 yX2_envelopeBound yX2_envelopeBound, Cond.initialized RX2]
def wz_k240_X2_overBound : List Cond := .code yX2_overBound cX2_overBound 1 (some .int) :: (wo_k240_X2_overBound ++ (wsX20 ++ (wz_k241_X2_envelopeBound ++ ([] : List Cond))))
theorem zg_k240_X2_overBound : ∀ w ∈ wz_k240_X2_overBound, goodWord w = true := zg_cons rfl (zg_app (by decide +kernel) (zg_app zgU_wsX20 (zg_app zg_k241_X2_envelopeBound zg_nil)))
theorem zi_k240_X2_overBound : ∀ w ∈ wz_k240_X2_overBound, w ∈ lw_tbl := zi_cons zw_1028 (zi_app (zi_cons zw_337 (zi_cons zw_334 (zi_cons zw_1029 (zi_cons zw_1031 (zi_cons zw_32 (zi_cons zw_112 zi_nil)))))) (zi_app inX2 (zi_app zi_k241_X2_envelopeBound zi_nil)))
set_option maxHeartbeats 4000000 in
set_option maxRecDepth 100000 in
theorem k240_X2_overBound (l : Launch) (D : va_G) (zt : Nat × Nat × Nat × (Nat → Nat) × (Nat → Nat)) (q : Nat → Nat) (d : Nat → ClassId) (I : Nat → Int32) (A : Nat → Nat → Int32) (hIv : IvX I A) : GM l D zt (tyX d) yX2_overBound wz_k240_X2_overBound ({ frames := 3, cells := 0, slots := 0, locals := 76 } : Room) [.ref (q 38)] (wX q d I A) (fun v _ w' => ∃ y0 : Int32, FE (fX2_overBound I A) y0 ∧ v = some (.int y0) ∧ w' = wX q d I A) 0 0 := by
  refine GM.of (cc := cX2_overBound) (maxL := 1) (ret := (some .int)) (own := RX2) (lv := [(0, .ref (q 38))]) (by decide) rfl rfl (Nat.le_of_ble_eq_true rfl) rfl (fun κ sz hk hR hN => ?_)
  have hin2 : ∀ w ∈ u_ws RX2 TX2 10, w ∈ wz_k240_X2_overBound := fun w h => (List.mem_cons_of_mem _ (List.mem_append_right _ (List.mem_append_left _ h)))
  have hF : FE (fX2_overBound I A) (fX2_overBound I A) := FE.rf
  refine g_aload_n hk dX2_overBound_0 rfl ?_
  refine g_aload_n hk dX2_overBound_1 rfl ?_
  refine gX_r38_1 hk hin2 (List.mem_cons_of_mem _ (List.mem_append_left _ (List.mem_of_getElem? (i := 0) rfl))) dX2_overBound_2 ?_
  refine g_aload_n hk dX2_overBound_5 rfl ?_
  refine gX_r38_0 hk hin2 (List.mem_cons_of_mem _ (List.mem_append_left _ (List.mem_of_getElem? (i := 1) rfl))) dX2_overBound_6 ?_
  refine g_callV (n := 2) hk (k241_X2_envelopeBound l D zt q d I A  hIv) (SP.same _) (fun _ h => h) (gi_V (List.mem_cons_of_mem _ (List.mem_append_left _ (List.mem_of_getElem? (i := 2) rfl))) (List.mem_cons_of_mem _ (List.mem_append_left _ (List.mem_of_getElem? (i := 3) rfl))) (List.mem_cons_of_mem _ (List.mem_append_left _ (List.mem_of_getElem? (i := 4) rfl))) (List.mem_cons_of_mem _ (List.mem_append_left _ (List.mem_of_getElem? (i := 5) rfl))) (gi_sub (fun w h => (List.mem_cons_of_mem _ (List.mem_append_right _ (List.mem_append_right _ (List.mem_append_left _ h))))) zg_k241_X2_envelopeBound)) rfl rfl rfl (by decide +kernel) ⟨Nat.le_of_ble_eq_true rfl, Nat.le_of_ble_eq_true rfl⟩ 38 rfl rfl rfl rfl (Nat.le_of_ble_eq_true rfl) ⟨Nat.le_of_ble_eq_true rfl, Nat.le_of_ble_eq_true rfl⟩ dX2_overBound_9 (fun v ty' w' hp hk' => ?_)
  obtain ⟨y4245, hC, rfl, rfl⟩ := hp
  replace hF := FE.lt hF (fe_s hC)
  show GW κ 1 0 0 (wX q d I A) 12 [(0, .ref (q 38))] [.int y4245]
  have b4246l := Int32.le_toInt y4245
  have b4246h := Int32.toInt_lt y4245
  exact g_iret hk hR rfl ⟨y4245, hF, rfl, rfl⟩ dX2_overBound_12
noncomputable def bX2_outsideCost_2_45 (y4266 : Int32) (z1 : Int32) (I : Nat → Int32) (A : Nat → Nat → Int32) : (Int32 → Int32 → Int32 → (Int32)) → Int32 → Int32 → Int32 → (Int32) := fun kk4315 x4268 x4269 x4270 => if y4266.toInt < x4268.toInt then if z1.toInt ≤ x4269.toInt then if x4270.toInt ≤ z1.toInt then 0 else f_lt (fX2_costOf I A z1 x4270) fun y4324 => y4324 else f_lt (fX2_costOf I A z1 x4269) fun y4326 => y4326 else if x4270.toInt ≤ (A 22 x4268.toNatClampNeg).toInt then if (A 22 x4268.toNatClampNeg).toInt ≤ x4269.toInt then f_lt (x4268 + Int32.ofInt 1) fun y4333 => kk4315 y4333 x4269 x4270 else f_lt (x4268 + Int32.ofInt 1) fun y4334 => kk4315 y4334 (A 22 x4268.toNatClampNeg) x4270 else f_lt (x4268 + Int32.ofInt 1) fun y4335 => kk4315 y4335 x4269 (A 22 x4268.toNatClampNeg)
noncomputable def fX2_outsideCost_2 (I : Nat → Int32) (A : Nat → Nat → Int32) (z1 : Int32) (z3 : Int32) : Int32 := f_lt (z3 - (I 31)) fun y4259 => f_lt (if (0 : Int32) < y4259 then y4259 else (0 : Int32)) fun y4260 => f_lt ((I 30) - (1 : Int32)) fun y4263 => f_lt (z3 + (I 31)) fun y4264 => f_lt (if y4264 < y4263 then y4264 else y4263) fun y4266 => f_lt (y4260 + (1 : Int32)) fun y4267 => itr_iii (0 : Int32) (bX2_outsideCost_2_45 y4266 z1 I A) FU y4267 (A 22 y4260.toNatClampNeg) (A 22 y4260.toNatClampNeg)
set_option maxHeartbeats 4000000 in
set_option maxRecDepth 100000 in
theorem k245_X2_outsideCost (l : Launch) (D : va_G) (zt : Nat × Nat × Nat × (Nat → Nat) × (Nat → Nat)) (q : Nat → Nat) (d : Nat → ClassId) (I : Nat → Int32) (A : Nat → Nat → Int32) (z1 : Int32) (z3 : Int32) (hIv : IvX I A) (hp0 : 0 ≤ z3.toInt) (hp1 : z3.toInt ≤ 15) : GM l D zt (tyX d) yX2_outsideCost wz_k242_X2_outsideCost ({ frames := 1, cells := 0, slots := 0, locals := 23 } : Room) [.ref (q 38), .int z1, .ref (q 40), .int z3] (wX q d I A) (fun v _ w' => ∃ y0 : Int32, FE (fX2_outsideCost_2 I A z1 z3) y0 ∧ v = some (.int y0) ∧ w' = wX q d I A) 0 0 := by
  refine GM.of (cc := cX2_outsideCost) (maxL := 10) (ret := (some .int)) (own := RX2) (lv := [(0, .ref (q 38)), (1, .int z1), (2, .ref (q 40)), (3, .int z3)]) (by decide) rfl rfl (Nat.le_of_ble_eq_true rfl) rfl (fun κ sz hk hR hN => ?_)
  have hin2 : ∀ w ∈ u_ws RX2 TX2 10, w ∈ wz_k242_X2_outsideCost := fun w h => (List.mem_cons_of_mem _ (List.mem_append_right _ (List.mem_append_left _ h)))
  have hF : FE (fX2_outsideCost_2 I A z1 z3) (fX2_outsideCost_2 I A z1 z3) := FE.rf
  refine g_iconst (v := 0) hk dX2_outsideCost_0 (by decide) ?_
  refine g_iload_n hk dX2_outsideCost_1 rfl ?_
  refine g_aload_n hk dX2_outsideCost_2 rfl ?_
  refine gX_i31 (v := (I 31)) hk hin2 (List.mem_cons_of_mem _ (List.mem_append_left _ (List.mem_of_getElem? (i := 0) rfl))) dX2_outsideCost_3 rfl ?_
  have f4257 := IvX_f31 hIv
  have b4258l := Int32.le_toInt (I 31)
  have b4258h := Int32.toInt_lt (I 31)
  refine g_isub hk dX2_outsideCost_6 ?_
  refine g_topi (fun y4259 ey4259 => ?_)
  replace hF := FE.lt hF ey4259
  have hy4259 : y4259.toInt = z3.toInt - (I 31).toInt := i32_sub ey4259 rfl rfl (by omega) (by omega)
  refine g_mmax hk (List.mem_cons_of_mem _ (List.mem_append_left _ (List.mem_of_getElem? (i := 1) rfl))) (List.mem_cons_of_mem _ (List.mem_append_left _ (List.mem_of_getElem? (i := 2) rfl))) (List.mem_cons_of_mem _ (List.mem_append_left _ (List.mem_of_getElem? (i := 3) rfl))) (List.mem_cons_of_mem _ (List.mem_append_left _ (List.mem_of_getElem? (i := 4) rfl))) (Nat.le_of_ble_eq_true rfl) (Nat.le_of_ble_eq_true rfl) (Nat.le_of_ble_eq_true rfl) (Nat.le_of_ble_eq_true rfl) dX2_outsideCost_7 ?_
  refine g_topi (fun y4260 ey4260 => ?_)
  replace hF := FE.lt hF ey4260
  have k4261 : (0 : Int32).toInt = 0 := rfl
  have hy4260 := i32_max ey4260
  refine g_istore (lv' := [(4, .int y4260), (0, .ref (q 38)), (1, .int z1), (2, .ref (q 40)), (3, .int z3)]) hk dX2_outsideCost_10 (by decide) rfl ?_
  refine g_aload_n hk dX2_outsideCost_12 rfl ?_
  refine gX_i30 (v := (I 30)) hk hin2 (List.mem_cons_of_mem _ (List.mem_append_left _ (List.mem_of_getElem? (i := 5) rfl))) dX2_outsideCost_13 rfl ?_
  have f4262 := IvX_f30 hIv
  refine g_iconst (v := 1) hk dX2_outsideCost_16 (by decide) ?_
  refine g_isub hk dX2_outsideCost_17 ?_
  refine g_topi (fun y4263 ey4263 => ?_)
  replace hF := FE.lt hF ey4263
  have hy4263 : y4263.toInt = (I 30).toInt - 1 := i32_sub ey4263 rfl rfl (by omega) (by omega)
  refine g_iload_n hk dX2_outsideCost_18 rfl ?_
  refine g_aload_n hk dX2_outsideCost_19 rfl ?_
  refine gX_i31 (v := (I 31)) hk hin2 (List.mem_cons_of_mem _ (List.mem_append_left _ (List.mem_of_getElem? (i := 0) rfl))) dX2_outsideCost_20 rfl ?_
  refine g_iadd hk dX2_outsideCost_23 ?_
  refine g_topi (fun y4264 ey4264 => ?_)
  replace hF := FE.lt hF ey4264
  have b4265l := Int32.le_toInt y4264
  have b4265h := Int32.toInt_lt y4264
  refine g_mmin hk (List.mem_cons_of_mem _ (List.mem_append_left _ (List.mem_of_getElem? (i := 6) rfl))) (List.mem_cons_of_mem _ (List.mem_append_left _ (List.mem_of_getElem? (i := 7) rfl))) (List.mem_cons_of_mem _ (List.mem_append_left _ (List.mem_of_getElem? (i := 3) rfl))) (List.mem_cons_of_mem _ (List.mem_append_left _ (List.mem_of_getElem? (i := 8) rfl))) (Nat.le_of_ble_eq_true rfl) (Nat.le_of_ble_eq_true rfl) (Nat.le_of_ble_eq_true rfl) (Nat.le_of_ble_eq_true rfl) dX2_outsideCost_24 ?_
  refine g_topi (fun y4266 ey4266 => ?_)
  replace hF := FE.lt hF ey4266
  have hy4266 := i32_min ey4266
  refine g_istore (lv' := [(5, .int y4266), (4, .int y4260), (0, .ref (q 38)), (1, .int z1), (2, .ref (q 40)), (3, .int z3)]) hk dX2_outsideCost_27 (by decide) rfl ?_
  refine g_aload_n hk dX2_outsideCost_29 rfl ?_
  refine g_iload hk dX2_outsideCost_30 rfl ?_
  refine lX_22 (v := (A 22 y4260.toNatClampNeg)) hk (vp_in_iff.mpr ⟨by omega, by omega⟩) rfl dX2_outsideCost_32 ?_
  refine g_istore (lv' := [(6, .int (A 22 y4260.toNatClampNeg)), (5, .int y4266), (4, .int y4260), (0, .ref (q 38)), (1, .int z1), (2, .ref (q 40)), (3, .int z3)]) hk dX2_outsideCost_33 (by decide) rfl ?_
  refine g_iload hk dX2_outsideCost_35 rfl ?_
  refine g_istore (lv' := [(7, .int (A 22 y4260.toNatClampNeg)), (6, .int (A 22 y4260.toNatClampNeg)), (5, .int y4266), (4, .int y4260), (0, .ref (q 38)), (1, .int z1), (2, .ref (q 40)), (3, .int z3)]) hk dX2_outsideCost_37 (by decide) rfl ?_
  refine g_iload hk dX2_outsideCost_39 rfl ?_
  refine g_iconst (v := 1) hk dX2_outsideCost_41 (by decide) ?_
  refine g_iadd hk dX2_outsideCost_42 ?_
  refine g_topi (fun y4267 ey4267 => ?_)
  replace hF := FE.lt hF ey4267
  have hy4267 : y4267.toInt = y4260.toInt + 1 := i32_add ey4267 rfl rfl (by omega) (by omega)
  refine g_istore (lv' := [(8, .int y4267), (7, .int (A 22 y4260.toNatClampNeg)), (6, .int (A 22 y4260.toNatClampNeg)), (5, .int y4266), (4, .int y4260), (0, .ref (q 38)), (1, .int z1), (2, .ref (q 40)), (3, .int z3)]) hk dX2_outsideCost_43 (by decide) rfl ?_
  have lp4312 : ∀ (n4313 : Nat) (x4268 : Int32) (x4269 : Int32) (x4270 : Int32), (1 ≤ x4268.toInt) → (x4268.toInt ≤ 16) → (16 - x4268.toInt < (n4313 : Int)) → (0 < n4313) → (FE (fX2_outsideCost_2 I A z1 z3) (itr_iii (0 : Int32) (bX2_outsideCost_2_45 y4266 z1 I A) n4313 x4268 x4269 x4270)) → GW κ 10 0 0 (wX q d I A) 45 [(8, .int x4268), (7, .int x4269), (6, .int x4270), (5, .int y4266), (4, .int y4260), (0, .ref (q 38)), (1, .int z1), (2, .ref (q 40)), (3, .int z3)] [] := by
    intro n4313
    induction n4313 with
    | zero =>
      intro x4268 x4269 x4270 h4310 h4311 m4314 m4314z hF
      exact absurd m4314z (Nat.lt_irrefl 0)
    | succ n4313 ih4316 =>
      intro x4268 x4269 x4270 h4310 h4311 m4314 m4314z hF
      replace hF := FE.itr_iii hF
      refine g_iload hk dX2_outsideCost_45 rfl ?_
      refine g_iload hk dX2_outsideCost_47 rfl ?_
      have b4317l := Int32.le_toInt y4266
      have b4317h := Int32.toInt_lt y4266
      refine g_icmp_gt (tgt := 89) (a := x4268.toInt) (b := y4266.toInt) hk dX2_outsideCost_49 (by decide) rfl rfl (fun c4318 => ?_) (fun c4318 => ?_)
      · skip
        replace hF := FE.pos hF c4318
        refine g_iload_n hk dX2_outsideCost_89 rfl ?_
        refine g_iload hk dX2_outsideCost_90 rfl ?_
        have b4319l := Int32.le_toInt z1
        have b4319h := Int32.toInt_lt z1
        have b4320l := Int32.le_toInt x4269
        have b4320h := Int32.toInt_lt x4269
        refine g_icmp_le (tgt := 103) (a := z1.toInt) (b := x4269.toInt) hk dX2_outsideCost_92 (by decide) rfl rfl (fun c4321 => ?_) (fun c4321 => ?_)
        · skip
          replace hF := FE.pos hF c4321
          refine g_iload_n hk dX2_outsideCost_103 rfl ?_
          refine g_iload hk dX2_outsideCost_104 rfl ?_
          have b4322l := Int32.le_toInt x4270
          have b4322h := Int32.toInt_lt x4270
          refine g_icmp_ge (tgt := 119) (a := z1.toInt) (b := x4270.toInt) hk dX2_outsideCost_106 (by decide) rfl rfl (fun c4323 => ?_) (fun c4323 => ?_)
          · skip
            replace hF := FE.pos hF c4323
            refine g_iconst (v := 0) hk dX2_outsideCost_119 (by decide) ?_
            exact g_iret hk hR rfl ⟨0, hF, rfl, rfl⟩ dX2_outsideCost_120
          · skip
            replace hF := FE.neg hF c4323
            refine g_aload_n hk dX2_outsideCost_109 rfl ?_
            refine g_iload_n hk dX2_outsideCost_110 rfl ?_
            refine g_iload hk dX2_outsideCost_111 rfl ?_
            refine g_callV (n := 2) hk (k235_X2_costOf l D zt q d I A z1 x4270 hIv) (SP.same _) (fun _ h => h) (gi_V (List.mem_cons_of_mem _ (List.mem_append_left _ (List.mem_of_getElem? (i := 9) rfl))) (List.mem_cons_of_mem _ (List.mem_append_left _ (List.mem_of_getElem? (i := 10) rfl))) (List.mem_cons_of_mem _ (List.mem_append_left _ (List.mem_of_getElem? (i := 11) rfl))) (List.mem_cons_of_mem _ (List.mem_append_left _ (List.mem_of_getElem? (i := 12) rfl))) (gi_sub (fun w h => (List.mem_cons_of_mem _ (List.mem_append_right _ (List.mem_append_right _ (List.mem_append_left _ h))))) zg_k235_X2_costOf)) rfl rfl rfl (by decide +kernel) ⟨Nat.le_of_ble_eq_true rfl, Nat.le_of_ble_eq_true rfl⟩ 38 rfl rfl rfl rfl (Nat.le_of_ble_eq_true rfl) ⟨Nat.le_of_ble_eq_true rfl, Nat.le_of_ble_eq_true rfl⟩ dX2_outsideCost_113 (fun v ty' w' hp hk' => ?_)
            obtain ⟨y4324, hC, rfl, rfl⟩ := hp
            replace hF := FE.lt hF (fe_s hC)
            show GW κ 10 0 0 (wX q d I A) 116 [(8, .int x4268), (7, .int x4269), (6, .int x4270), (5, .int y4266), (4, .int y4260), (0, .ref (q 38)), (1, .int z1), (2, .ref (q 40)), (3, .int z3)] [.int y4324]
            refine g_goto (tgt := 120) hk dX2_outsideCost_116 (by decide) ?_
            have b4325l := Int32.le_toInt y4324
            have b4325h := Int32.toInt_lt y4324
            exact g_iret hk hR rfl ⟨y4324, hF, rfl, rfl⟩ dX2_outsideCost_120
        · skip
          replace hF := FE.neg hF c4321
          refine g_aload_n hk dX2_outsideCost_95 rfl ?_
          refine g_iload_n hk dX2_outsideCost_96 rfl ?_
          refine g_iload hk dX2_outsideCost_97 rfl ?_
          refine g_callV (n := 2) hk (k235_X2_costOf l D zt q d I A z1 x4269 hIv) (SP.same _) (fun _ h => h) (gi_V (List.mem_cons_of_mem _ (List.mem_append_left _ (List.mem_of_getElem? (i := 9) rfl))) (List.mem_cons_of_mem _ (List.mem_append_left _ (List.mem_of_getElem? (i := 10) rfl))) (List.mem_cons_of_mem _ (List.mem_append_left _ (List.mem_of_getElem? (i := 11) rfl))) (List.mem_cons_of_mem _ (List.mem_append_left _ (List.mem_of_getElem? (i := 12) rfl))) (gi_sub (fun w h => (List.mem_cons_of_mem _ (List.mem_append_right _ (List.mem_append_right _ (List.mem_append_left _ h))))) zg_k235_X2_costOf)) rfl rfl rfl (by decide +kernel) ⟨Nat.le_of_ble_eq_true rfl, Nat.le_of_ble_eq_true rfl⟩ 38 rfl rfl rfl rfl (Nat.le_of_ble_eq_true rfl) ⟨Nat.le_of_ble_eq_true rfl, Nat.le_of_ble_eq_true rfl⟩ dX2_outsideCost_99 (fun v ty' w' hp hk' => ?_)
          obtain ⟨y4326, hC, rfl, rfl⟩ := hp
          replace hF := FE.lt hF (fe_s hC)
          show GW κ 10 0 0 (wX q d I A) 102 [(8, .int x4268), (7, .int x4269), (6, .int x4270), (5, .int y4266), (4, .int y4260), (0, .ref (q 38)), (1, .int z1), (2, .ref (q 40)), (3, .int z3)] [.int y4326]
          have b4327l := Int32.le_toInt y4326
          have b4327h := Int32.toInt_lt y4326
          exact g_iret hk hR rfl ⟨y4326, hF, rfl, rfl⟩ dX2_outsideCost_102
      · skip
        replace hF := FE.neg hF c4318
        refine g_aload_n hk dX2_outsideCost_52 rfl ?_
        refine g_iload hk dX2_outsideCost_53 rfl ?_
        refine lX_22 (v := (A 22 x4268.toNatClampNeg)) hk (vp_in_iff.mpr ⟨by omega, by omega⟩) rfl dX2_outsideCost_55 ?_
        refine g_istore (lv' := [(9, .int (A 22 x4268.toNatClampNeg)), (8, .int x4268), (7, .int x4269), (6, .int x4270), (5, .int y4266), (4, .int y4260), (0, .ref (q 38)), (1, .int z1), (2, .ref (q 40)), (3, .int z3)]) hk dX2_outsideCost_56 (by decide) rfl ?_
        refine g_iload hk dX2_outsideCost_58 rfl ?_
        refine g_iload hk dX2_outsideCost_60 rfl ?_
        have b4328l := Int32.le_toInt (A 22 x4268.toNatClampNeg)
        have b4328h := Int32.toInt_lt (A 22 x4268.toNatClampNeg)
        have b4329l := Int32.le_toInt x4270
        have b4329h := Int32.toInt_lt x4270
        refine g_icmp_ge (tgt := 72) (a := (A 22 x4268.toNatClampNeg).toInt) (b := x4270.toInt) hk dX2_outsideCost_62 (by decide) rfl rfl (fun c4330 => ?_) (fun c4330 => ?_)
        · skip
          replace hF := FE.pos hF c4330
          refine g_iload hk dX2_outsideCost_72 rfl ?_
          refine g_iload hk dX2_outsideCost_74 rfl ?_
          have b4331l := Int32.le_toInt x4269
          have b4331h := Int32.toInt_lt x4269
          refine g_icmp_le (tgt := 83) (a := (A 22 x4268.toNatClampNeg).toInt) (b := x4269.toInt) hk dX2_outsideCost_76 (by decide) rfl rfl (fun c4332 => ?_) (fun c4332 => ?_)
          · skip
            replace hF := FE.pos hF c4332
            obtain ⟨y4333, ey4333⟩ : ∃ y : Int32, y = x4268 + Int32.ofInt 1 := ⟨_, rfl⟩
            replace hF := FE.lt hF ey4333
            have hy4333 : y4333.toInt = x4268.toInt + 1 := i32_add ey4333 rfl (by decide) (by omega) (by omega)
            refine g_iinc (v := y4333) (lv' := [(8, .int y4333), (9, .int (A 22 x4268.toNatClampNeg)), (7, .int x4269), (6, .int x4270), (5, .int y4266), (4, .int y4260), (0, .ref (q 38)), (1, .int z1), (2, .ref (q 40)), (3, .int z3)]) hk 1 dX2_outsideCost_83 rfl ey4333.symm (by decide) rfl ?_
            refine g_goto (tgt := 45) hk dX2_outsideCost_86 (by decide) ?_
            exact g_lv (List.forall_mem_cons.mpr ⟨List.mem_of_getElem? (i := 0) rfl, (List.forall_mem_cons.mpr ⟨List.mem_of_getElem? (i := 2) rfl, (List.forall_mem_cons.mpr ⟨List.mem_of_getElem? (i := 3) rfl, (List.forall_mem_cons.mpr ⟨List.mem_of_getElem? (i := 4) rfl, (List.forall_mem_cons.mpr ⟨List.mem_of_getElem? (i := 5) rfl, (List.forall_mem_cons.mpr ⟨List.mem_of_getElem? (i := 6) rfl, (List.forall_mem_cons.mpr ⟨List.mem_of_getElem? (i := 7) rfl, (List.forall_mem_cons.mpr ⟨List.mem_of_getElem? (i := 8) rfl, (List.forall_mem_cons.mpr ⟨List.mem_of_getElem? (i := 9) rfl, (fun _ h => absurd h List.not_mem_nil)⟩)⟩)⟩)⟩)⟩)⟩)⟩)⟩)⟩) (ih4316 y4333 x4269 x4270 (by omega) (by omega) (by omega) (by omega) hF)
          · skip
            replace hF := FE.neg hF c4332
            refine g_iload hk dX2_outsideCost_79 rfl ?_
            refine g_istore (lv' := [(7, .int (A 22 x4268.toNatClampNeg)), (9, .int (A 22 x4268.toNatClampNeg)), (8, .int x4268), (6, .int x4270), (5, .int y4266), (4, .int y4260), (0, .ref (q 38)), (1, .int z1), (2, .ref (q 40)), (3, .int z3)]) hk dX2_outsideCost_81 (by decide) rfl ?_
            obtain ⟨y4334, ey4334⟩ : ∃ y : Int32, y = x4268 + Int32.ofInt 1 := ⟨_, rfl⟩
            replace hF := FE.lt hF ey4334
            have hy4334 : y4334.toInt = x4268.toInt + 1 := i32_add ey4334 rfl (by decide) (by omega) (by omega)
            refine g_iinc (v := y4334) (lv' := [(8, .int y4334), (7, .int (A 22 x4268.toNatClampNeg)), (9, .int (A 22 x4268.toNatClampNeg)), (6, .int x4270), (5, .int y4266), (4, .int y4260), (0, .ref (q 38)), (1, .int z1), (2, .ref (q 40)), (3, .int z3)]) hk 2 dX2_outsideCost_83 rfl ey4334.symm (by decide) rfl ?_
            refine g_goto (tgt := 45) hk dX2_outsideCost_86 (by decide) ?_
            exact g_lv (List.forall_mem_cons.mpr ⟨List.mem_of_getElem? (i := 0) rfl, (List.forall_mem_cons.mpr ⟨List.mem_of_getElem? (i := 1) rfl, (List.forall_mem_cons.mpr ⟨List.mem_of_getElem? (i := 3) rfl, (List.forall_mem_cons.mpr ⟨List.mem_of_getElem? (i := 4) rfl, (List.forall_mem_cons.mpr ⟨List.mem_of_getElem? (i := 5) rfl, (List.forall_mem_cons.mpr ⟨List.mem_of_getElem? (i := 6) rfl, (List.forall_mem_cons.mpr ⟨List.mem_of_getElem? (i := 7) rfl, (List.forall_mem_cons.mpr ⟨List.mem_of_getElem? (i := 8) rfl, (List.forall_mem_cons.mpr ⟨List.mem_of_getElem? (i := 9) rfl, (fun _ h => absurd h List.not_mem_nil)⟩)⟩)⟩)⟩)⟩)⟩)⟩)⟩)⟩) (ih4316 y4334 (A 22 x4268.toNatClampNeg) x4270 (by omega) (by omega) (by omega) (by omega) hF)
        · skip
          replace hF := FE.neg hF c4330
          refine g_iload hk dX2_outsideCost_65 rfl ?_
          refine g_istore (lv' := [(6, .int (A 22 x4268.toNatClampNeg)), (9, .int (A 22 x4268.toNatClampNeg)), (8, .int x4268), (7, .int x4269), (5, .int y4266), (4, .int y4260), (0, .ref (q 38)), (1, .int z1), (2, .ref (q 40)), (3, .int z3)]) hk dX2_outsideCost_67 (by decide) rfl ?_
          refine g_goto (tgt := 83) hk dX2_outsideCost_69 (by decide) ?_
          obtain ⟨y4335, ey4335⟩ : ∃ y : Int32, y = x4268 + Int32.ofInt 1 := ⟨_, rfl⟩
          replace hF := FE.lt hF ey4335
          have hy4335 : y4335.toInt = x4268.toInt + 1 := i32_add ey4335 rfl (by decide) (by omega) (by omega)
          refine g_iinc (v := y4335) (lv' := [(8, .int y4335), (6, .int (A 22 x4268.toNatClampNeg)), (9, .int (A 22 x4268.toNatClampNeg)), (7, .int x4269), (5, .int y4266), (4, .int y4260), (0, .ref (q 38)), (1, .int z1), (2, .ref (q 40)), (3, .int z3)]) hk 2 dX2_outsideCost_83 rfl ey4335.symm (by decide) rfl ?_
          refine g_goto (tgt := 45) hk dX2_outsideCost_86 (by decide) ?_
          exact g_lv (List.forall_mem_cons.mpr ⟨List.mem_of_getElem? (i := 0) rfl, (List.forall_mem_cons.mpr ⟨List.mem_of_getElem? (i := 3) rfl, (List.forall_mem_cons.mpr ⟨List.mem_of_getElem? (i := 1) rfl, (List.forall_mem_cons.mpr ⟨List.mem_of_getElem? (i := 4) rfl, (List.forall_mem_cons.mpr ⟨List.mem_of_getElem? (i := 5) rfl, (List.forall_mem_cons.mpr ⟨List.mem_of_getElem? (i := 6) rfl, (List.forall_mem_cons.mpr ⟨List.mem_of_getElem? (i := 7) rfl, (List.forall_mem_cons.mpr ⟨List.mem_of_getElem? (i := 8) rfl, (List.forall_mem_cons.mpr ⟨List.mem_of_getElem? (i := 9) rfl, (fun _ h => absurd h List.not_mem_nil)⟩)⟩)⟩)⟩)⟩)⟩)⟩)⟩)⟩) (ih4316 y4335 x4269 (A 22 x4268.toNatClampNeg) (by omega) (by omega) (by omega) (by omega) hF)
  have b4337l := Int32.le_toInt (A 22 y4260.toNatClampNeg)
  have b4337h := Int32.toInt_lt (A 22 y4260.toNatClampNeg)
  have b4338 := Int32.le_toInt y4267
  have b4339 := Int32.toInt_lt y4267
  have n4336a : 16 - y4267.toInt < (FU : Int) := by have := FU_eq; omega
  have n4336b : 0 < FU := by have := FU_eq; omega
  exact lp4312 FU y4267 (A 22 y4260.toNatClampNeg) (A 22 y4260.toNatClampNeg) (by omega) (by omega) n4336a n4336b hF
noncomputable def bX2_envelopeBound_2_5 (I : Nat → Int32) (A : Nat → Nat → Int32) : (Int32 → Int32 → (Int32)) → Int32 → Int32 → (Int32) := fun kk4371 x4250 x4251 => if (I 30).toInt ≤ x4250.toInt then x4251 else f_lt (fX2_outsideCost_2 I A (A 21 x4250.toNatClampNeg) x4250) fun y4376 => f_lt (x4251 + y4376) fun y4379 => f_lt (x4250 + Int32.ofInt 1) fun y4380 => kk4371 y4380 y4379
noncomputable def fX2_envelopeBound_2 (I : Nat → Int32) (A : Nat → Nat → Int32) : Int32 := itr_ii (0 : Int32) (bX2_envelopeBound_2_5 I A) FU 0 0
set_option maxHeartbeats 4000000 in
set_option maxRecDepth 100000 in
theorem k244_X2_envelopeBound (l : Launch) (D : va_G) (zt : Nat × Nat × Nat × (Nat → Nat) × (Nat → Nat)) (q : Nat → Nat) (d : Nat → ClassId) (I : Nat → Int32) (A : Nat → Nat → Int32) (hIv : IvX I A) : GM l D zt (tyX d) yX2_envelopeBound wz_k241_X2_envelopeBound ({ frames := 2, cells := 0, slots := 0, locals := 52 } : Room) [.ref (q 38), .ref (q 39), .ref (q 40)] (wX q d I A) (fun v _ w' => ∃ y0 : Int32, FE (fX2_envelopeBound_2 I A) y0 ∧ v = some (.int y0) ∧ w' = wX q d I A) 0 0 := by
  refine GM.of (cc := cX2_envelopeBound) (maxL := 5) (ret := (some .int)) (own := RX2) (lv := [(0, .ref (q 38)), (1, .ref (q 39)), (2, .ref (q 40))]) (by decide) rfl rfl (Nat.le_of_ble_eq_true rfl) rfl (fun κ sz hk hR hN => ?_)
  have hin2 : ∀ w ∈ u_ws RX2 TX2 10, w ∈ wz_k241_X2_envelopeBound := fun w h => (List.mem_cons_of_mem _ (List.mem_append_right _ (List.mem_append_left _ h)))
  have hF : FE (fX2_envelopeBound_2 I A) (fX2_envelopeBound_2 I A) := FE.rf
  refine g_iconst (v := 0) hk dX2_envelopeBound_0 (by decide) ?_
  refine g_istore_n (lv' := [(3, .int 0), (0, .ref (q 38)), (1, .ref (q 39)), (2, .ref (q 40))]) hk dX2_envelopeBound_1 (by decide) rfl ?_
  refine g_iconst (v := 0) hk dX2_envelopeBound_2 (by decide) ?_
  refine g_istore (lv' := [(4, .int 0), (3, .int 0), (0, .ref (q 38)), (1, .ref (q 39)), (2, .ref (q 40))]) hk dX2_envelopeBound_3 (by decide) rfl ?_
  have lp4368 : ∀ (n4369 : Nat) (x4250 : Int32) (x4251 : Int32), (0 ≤ x4250.toInt) → (x4250.toInt ≤ 16) → (17 - x4250.toInt < (n4369 : Int)) → (0 < n4369) → (FE (fX2_envelopeBound_2 I A) (itr_ii (0 : Int32) (bX2_envelopeBound_2_5 I A) n4369 x4250 x4251)) → GW κ 5 0 0 (wX q d I A) 5 [(4, .int x4250), (3, .int x4251), (0, .ref (q 38)), (1, .ref (q 39)), (2, .ref (q 40))] [] := by
    intro n4369
    induction n4369 with
    | zero =>
      intro x4250 x4251 h4366 h4367 m4370 m4370z hF
      exact absurd m4370z (Nat.lt_irrefl 0)
    | succ n4369 ih4372 =>
      intro x4250 x4251 h4366 h4367 m4370 m4370z hF
      replace hF := FE.itr_ii hF
      refine g_iload hk dX2_envelopeBound_5 rfl ?_
      refine g_aload_n hk dX2_envelopeBound_7 rfl ?_
      refine gX_i30 (v := (I 30)) hk hin2 (List.mem_cons_of_mem _ (List.mem_append_left _ (List.mem_of_getElem? (i := 0) rfl))) dX2_envelopeBound_8 rfl ?_
      have f4373 := IvX_f30 hIv
      refine g_icmp_ge (tgt := 41) (a := x4250.toInt) (b := (I 30).toInt) hk dX2_envelopeBound_11 (by decide) rfl rfl (fun c4374 => ?_) (fun c4374 => ?_)
      · skip
        replace hF := FE.pos hF c4374
        refine g_iload_n hk dX2_envelopeBound_41 rfl ?_
        have b4375l := Int32.le_toInt x4251
        have b4375h := Int32.toInt_lt x4251
        exact g_iret hk hR rfl ⟨x4251, hF, rfl, rfl⟩ dX2_envelopeBound_42
      · skip
        replace hF := FE.neg hF c4374
        refine g_iload hk dX2_envelopeBound_14 rfl ?_
        refine g_aload_n hk dX2_envelopeBound_16 rfl ?_
        refine nX_21 hk dX2_envelopeBound_17 ?_
        refine g_icmp_ge (tgt := 41) (a := x4250.toInt) (b := 16) hk dX2_envelopeBound_18 (by decide) rfl rfl (fun z9 => absurd z9 (show ¬ (16 ≤ x4250.toInt) from by omega)) (fun _ => ?_)
        refine g_iload_n hk dX2_envelopeBound_21 rfl ?_
        refine g_aload_n hk dX2_envelopeBound_22 rfl ?_
        refine g_aload_n hk dX2_envelopeBound_23 rfl ?_
        refine g_iload hk dX2_envelopeBound_24 rfl ?_
        refine lX_21 (v := (A 21 x4250.toNatClampNeg)) hk (vp_in_iff.mpr ⟨by omega, by omega⟩) rfl dX2_envelopeBound_26 ?_
        refine g_aload_n hk dX2_envelopeBound_27 rfl ?_
        refine g_iload hk dX2_envelopeBound_28 rfl ?_
        refine g_callV (n := 3) hk (k245_X2_outsideCost l D zt q d I A (A 21 x4250.toNatClampNeg) x4250 hIv (by omega) (by omega)) (SP.same _) (fun _ h => h) (gi_V (List.mem_cons_of_mem _ (List.mem_append_left _ (List.mem_of_getElem? (i := 1) rfl))) (List.mem_cons_of_mem _ (List.mem_append_left _ (List.mem_of_getElem? (i := 2) rfl))) (List.mem_cons_of_mem _ (List.mem_append_left _ (List.mem_of_getElem? (i := 3) rfl))) (List.mem_cons_of_mem _ (List.mem_append_left _ (List.mem_of_getElem? (i := 4) rfl))) (gi_sub (fun w h => (List.mem_cons_of_mem _ (List.mem_append_right _ (List.mem_append_right _ (List.mem_append_left _ h))))) zg_k242_X2_outsideCost)) rfl rfl rfl (by decide +kernel) ⟨Nat.le_of_ble_eq_true rfl, Nat.le_of_ble_eq_true rfl⟩ 38 rfl rfl rfl rfl (Nat.le_of_ble_eq_true rfl) ⟨Nat.le_of_ble_eq_true rfl, Nat.le_of_ble_eq_true rfl⟩ dX2_envelopeBound_30 (fun v ty' w' hp hk' => ?_)
        obtain ⟨y4376, hC, rfl, rfl⟩ := hp
        replace hF := FE.lt hF (fe_s hC)
        show GW κ 5 0 0 (wX q d I A) 33 [(4, .int x4250), (3, .int x4251), (0, .ref (q 38)), (1, .ref (q 39)), (2, .ref (q 40))] [.int y4376, .int x4251]
        have b4377l := Int32.le_toInt x4251
        have b4377h := Int32.toInt_lt x4251
        have b4378l := Int32.le_toInt y4376
        have b4378h := Int32.toInt_lt y4376
        refine g_iadd hk dX2_envelopeBound_33 ?_
        refine g_topi (fun y4379 ey4379 => ?_)
        replace hF := FE.lt hF ey4379
        refine g_istore_n (lv' := [(3, .int y4379), (4, .int x4250), (0, .ref (q 38)), (1, .ref (q 39)), (2, .ref (q 40))]) hk dX2_envelopeBound_34 (by decide) rfl ?_
        obtain ⟨y4380, ey4380⟩ : ∃ y : Int32, y = x4250 + Int32.ofInt 1 := ⟨_, rfl⟩
        replace hF := FE.lt hF ey4380
        have hy4380 : y4380.toInt = x4250.toInt + 1 := i32_add ey4380 rfl (by decide) (by omega) (by omega)
        refine g_iinc (v := y4380) (lv' := [(4, .int y4380), (3, .int y4379), (0, .ref (q 38)), (1, .ref (q 39)), (2, .ref (q 40))]) hk 1 dX2_envelopeBound_35 rfl ey4380.symm (by decide) rfl ?_
        refine g_goto (tgt := 5) hk dX2_envelopeBound_38 (by decide) ?_
        exact g_lv (List.forall_mem_cons.mpr ⟨List.mem_of_getElem? (i := 0) rfl, (List.forall_mem_cons.mpr ⟨List.mem_of_getElem? (i := 1) rfl, (List.forall_mem_cons.mpr ⟨List.mem_of_getElem? (i := 2) rfl, (List.forall_mem_cons.mpr ⟨List.mem_of_getElem? (i := 3) rfl, (List.forall_mem_cons.mpr ⟨List.mem_of_getElem? (i := 4) rfl, (fun _ h => absurd h List.not_mem_nil)⟩)⟩)⟩)⟩)⟩) (ih4372 y4380 y4379 (by omega) (by omega) (by omega) (by omega) hF)
  have k4382 : (0 : Int32).toInt = 0 := rfl
  have n4381a : 17 - 0 < (FU : Int) := by have := FU_eq; omega
  have n4381b : 0 < FU := by have := FU_eq; omega
  exact lp4368 FU 0 0 (by omega) (by omega) n4381a n4381b hF
noncomputable def fX2_backBound (I : Nat → Int32) (A : Nat → Nat → Int32) : Int32 := f_lt (fX2_envelopeBound_2 I A) fun y4383 => y4383
def wo_k243_X2_backBound : List Cond := [Cond.fieldLink RX2 9 "WarpDesk$Fit" "left" "[I", Cond.fieldLink RX2 15 "WarpDesk$Fit" "right" "[I", Cond.methodLink RX2 68 yX2_envelopeBound, Cond.instanceMethod yX2_envelopeBound, Cond.selects RX2 yX2_envelopeBound yX2_envelopeBound, Cond.initialized RX2]
def wz_k243_X2_backBound : List Cond := .code yX2_backBound cX2_backBound 1 (some .int) :: (wo_k243_X2_backBound ++ (wsX20 ++ (wz_k241_X2_envelopeBound ++ ([] : List Cond))))
theorem zg_k243_X2_backBound : ∀ w ∈ wz_k243_X2_backBound, goodWord w = true := zg_cons rfl (zg_app (by decide +kernel) (zg_app zgU_wsX20 (zg_app zg_k241_X2_envelopeBound zg_nil)))
theorem zi_k243_X2_backBound : ∀ w ∈ wz_k243_X2_backBound, w ∈ lw_tbl := zi_cons zw_1040 (zi_app (zi_cons zw_334 (zi_cons zw_337 (zi_cons zw_1029 (zi_cons zw_1031 (zi_cons zw_32 (zi_cons zw_112 zi_nil)))))) (zi_app inX2 (zi_app zi_k241_X2_envelopeBound zi_nil)))
set_option maxHeartbeats 4000000 in
set_option maxRecDepth 100000 in
theorem k243_X2_backBound (l : Launch) (D : va_G) (zt : Nat × Nat × Nat × (Nat → Nat) × (Nat → Nat)) (q : Nat → Nat) (d : Nat → ClassId) (I : Nat → Int32) (A : Nat → Nat → Int32) (hIv : IvX I A) : GM l D zt (tyX d) yX2_backBound wz_k243_X2_backBound ({ frames := 3, cells := 0, slots := 0, locals := 76 } : Room) [.ref (q 38)] (wX q d I A) (fun v _ w' => ∃ y0 : Int32, FE (fX2_backBound I A) y0 ∧ v = some (.int y0) ∧ w' = wX q d I A) 0 0 := by
  refine GM.of (cc := cX2_backBound) (maxL := 1) (ret := (some .int)) (own := RX2) (lv := [(0, .ref (q 38))]) (by decide) rfl rfl (Nat.le_of_ble_eq_true rfl) rfl (fun κ sz hk hR hN => ?_)
  have hin2 : ∀ w ∈ u_ws RX2 TX2 10, w ∈ wz_k243_X2_backBound := fun w h => (List.mem_cons_of_mem _ (List.mem_append_right _ (List.mem_append_left _ h)))
  have hF : FE (fX2_backBound I A) (fX2_backBound I A) := FE.rf
  refine g_aload_n hk dX2_backBound_0 rfl ?_
  refine g_aload_n hk dX2_backBound_1 rfl ?_
  refine gX_r38_0 hk hin2 (List.mem_cons_of_mem _ (List.mem_append_left _ (List.mem_of_getElem? (i := 0) rfl))) dX2_backBound_2 ?_
  refine g_aload_n hk dX2_backBound_5 rfl ?_
  refine gX_r38_1 hk hin2 (List.mem_cons_of_mem _ (List.mem_append_left _ (List.mem_of_getElem? (i := 1) rfl))) dX2_backBound_6 ?_
  refine g_callV (n := 2) hk (k244_X2_envelopeBound l D zt q d I A  hIv) (SP.same _) (fun _ h => h) (gi_V (List.mem_cons_of_mem _ (List.mem_append_left _ (List.mem_of_getElem? (i := 2) rfl))) (List.mem_cons_of_mem _ (List.mem_append_left _ (List.mem_of_getElem? (i := 3) rfl))) (List.mem_cons_of_mem _ (List.mem_append_left _ (List.mem_of_getElem? (i := 4) rfl))) (List.mem_cons_of_mem _ (List.mem_append_left _ (List.mem_of_getElem? (i := 5) rfl))) (gi_sub (fun w h => (List.mem_cons_of_mem _ (List.mem_append_right _ (List.mem_append_right _ (List.mem_append_left _ h))))) zg_k241_X2_envelopeBound)) rfl rfl rfl (by decide +kernel) ⟨Nat.le_of_ble_eq_true rfl, Nat.le_of_ble_eq_true rfl⟩ 38 rfl rfl rfl rfl (Nat.le_of_ble_eq_true rfl) ⟨Nat.le_of_ble_eq_true rfl, Nat.le_of_ble_eq_true rfl⟩ dX2_backBound_9 (fun v ty' w' hp hk' => ?_)
  obtain ⟨y4383, hC, rfl, rfl⟩ := hp
  replace hF := FE.lt hF (fe_s hC)
  show GW κ 1 0 0 (wX q d I A) 12 [(0, .ref (q 38))] [.int y4383]
  have b4384l := Int32.le_toInt y4383
  have b4384h := Int32.toInt_lt y4383
  exact g_iret hk hR rfl ⟨y4383, hF, rfl, rfl⟩ dX2_backBound_12
noncomputable def fX11_bound (I : Nat → Int32) (A : Nat → Nat → Int32) (z1 : Int32) (z2 : Int32) (z3 : Int32) : Int32 × (Nat → Int32) × (Nat → Nat → Int32) := f_bdX (fX0_openBoth I A z1 z2) fun y4095 I4098 A4098 => if y4095.toInt ≠ 0 then if z3.toInt = 0 then f_lt (fX2_endsBound I4098 A4098) fun y4109 => (y4109, I4098, A4098) else if z3.toInt = 1 then f_lt (fX2_overBound I4098 A4098) fun y4247 => (y4247, I4098, A4098) else if z3.toInt = 2 then f_lt (fX2_backBound I4098 A4098) fun y4385 => (y4385, I4098, A4098) else ((-1), I4098, A4098) else ((-1), I4098, A4098)
def wo_k238_X11_bound : List Cond := [Cond.fieldLink RX11 65 "WarpDesk" "bench" "LWarpDesk$Bench;", Cond.methodLink RX11 212 yX0_openBoth, Cond.instanceMethod yX0_openBoth, Cond.selects RX0 yX0_openBoth yX0_openBoth, Cond.initialized RX0, Cond.fieldLink RX11 202 "WarpDesk$Bench" "fit" "LWarpDesk$Fit;", Cond.methodLink RX11 218 yX2_endsBound, Cond.instanceMethod yX2_endsBound, Cond.selects RX2 yX2_endsBound yX2_endsBound, Cond.initialized RX2, Cond.methodLink RX11 221 yX2_overBound, Cond.instanceMethod yX2_overBound, Cond.selects RX2 yX2_overBound yX2_overBound, Cond.methodLink RX11 224 yX2_backBound, Cond.instanceMethod yX2_backBound, Cond.selects RX2 yX2_backBound yX2_backBound]
def wz_k238_X11_bound : List Cond := .code yX11_bound cX11_bound 4 (some .int) :: (wo_k238_X11_bound ++ (wsX00 ++ (wsX110 ++ (wz_k222_X0_openBoth ++ (wz_k239_X2_endsBound ++ (wz_k240_X2_overBound ++ (wz_k243_X2_backBound ++ ([] : List Cond))))))))
theorem zg_k238_X11_bound : ∀ w ∈ wz_k238_X11_bound, goodWord w = true := zg_cons rfl (zg_app (by decide +kernel) (zg_app zgU_wsX00 (zg_app zgU_wsX110 (zg_app zg_k222_X0_openBoth (zg_app zg_k239_X2_endsBound (zg_app zg_k240_X2_overBound (zg_app zg_k243_X2_backBound zg_nil)))))))
theorem zi_k238_X11_bound : ∀ w ∈ wz_k238_X11_bound, w ∈ lw_tbl := zi_cons zw_1020 (zi_app (zi_cons zw_494 (zi_cons zw_969 (zi_cons zw_970 (zi_cons zw_971 (zi_cons zw_111 (zi_cons zw_383 (zi_cons zw_1021 (zi_cons zw_1022 (zi_cons zw_1023 (zi_cons zw_112 (zi_cons zw_1025 (zi_cons zw_1026 (zi_cons zw_1027 (zi_cons zw_1037 (zi_cons zw_1038 (zi_cons zw_1039 zi_nil)))))))))))))))) (zi_app inX0 (zi_app inX11 (zi_app zi_k222_X0_openBoth (zi_app zi_k239_X2_endsBound (zi_app zi_k240_X2_overBound (zi_app zi_k243_X2_backBound zi_nil)))))))
set_option maxHeartbeats 4000000 in
set_option maxRecDepth 100000 in
theorem k238_X11_bound (l : Launch) (D : va_G) (zt : Nat × Nat × Nat × (Nat → Nat) × (Nat → Nat)) (q : Nat → Nat) (d : Nat → ClassId) (I : Nat → Int32) (A : Nat → Nat → Int32) (z1 : Int32) (z2 : Int32) (z3 : Int32) (hIv : IvX I A) : GM l D zt (tyX d) yX11_bound wz_k238_X11_bound ({ frames := 6, cells := 0, slots := 0, locals := 131 } : Room) [.ref (q 0), .int z1, .int z2, .int z3] (wX q d I A) (fun v _ w' => ∃ (I' : Nat → Int32) (A' : Nat → Nat → Int32), Md [28, 30, 31, 32] I I' ∧ Md [21, 22] A A' ∧ IvX I' A' ∧ ∃ y0 : Int32, FE (fX11_bound I A z1 z2 z3) (y0, I', A') ∧ v = some (.int y0) ∧ w' = wX q d I' A') 0 0 := by
  refine GM.of (cc := cX11_bound) (maxL := 4) (ret := (some .int)) (own := RX11) (lv := [(0, .ref (q 0)), (1, .int z1), (2, .int z2), (3, .int z3)]) (by decide) rfl rfl (Nat.le_of_ble_eq_true rfl) rfl (fun κ sz hk hR hN => ?_)
  have hin0 : ∀ w ∈ u_ws RX0 TX0 5, w ∈ wz_k238_X11_bound := fun w h => (List.mem_cons_of_mem _ (List.mem_append_right _ (List.mem_append_left _ h)))
  have hin11 : ∀ w ∈ u_ws RX11 TX11 10, w ∈ wz_k238_X11_bound := fun w h => (List.mem_cons_of_mem _ (List.mem_append_right _ (List.mem_append_right _ (List.mem_append_left _ h))))
  have hF : FE (fX11_bound I A z1 z2 z3) (fX11_bound I A z1 z2 z3) := FE.rf
  refine g_aload_n hk dX11_bound_0 rfl ?_
  refine gX_r0_7 hk hin11 (List.mem_cons_of_mem _ (List.mem_append_left _ (List.mem_of_getElem? (i := 0) rfl))) dX11_bound_1 ?_
  refine g_iload_n hk dX11_bound_4 rfl ?_
  refine g_iload_n hk dX11_bound_5 rfl ?_
  refine g_callV (n := 2) hk (k222_X0_openBoth l D zt q d I A z1 z2 hIv) (SP.same _) (fun _ h => h) (gi_V (List.mem_cons_of_mem _ (List.mem_append_left _ (List.mem_of_getElem? (i := 1) rfl))) (List.mem_cons_of_mem _ (List.mem_append_left _ (List.mem_of_getElem? (i := 2) rfl))) (List.mem_cons_of_mem _ (List.mem_append_left _ (List.mem_of_getElem? (i := 3) rfl))) (List.mem_cons_of_mem _ (List.mem_append_left _ (List.mem_of_getElem? (i := 4) rfl))) (gi_sub (fun w h => (List.mem_cons_of_mem _ (List.mem_append_right _ (List.mem_append_right _ (List.mem_append_right _ (List.mem_append_left _ h)))))) zg_k222_X0_openBoth)) rfl rfl rfl (by decide +kernel) ⟨Nat.le_of_ble_eq_true rfl, Nat.le_of_ble_eq_true rfl⟩ 37 rfl rfl rfl rfl (Nat.le_of_ble_eq_true rfl) ⟨Nat.le_of_ble_eq_true rfl, Nat.le_of_ble_eq_true rfl⟩ dX11_bound_6 (fun v ty' w' hp hk' => ?_)
  obtain ⟨I4098, A4098, hI4098, hA4098, hV4098, y4095, c4096, c4097, hC, rfl, rfl⟩ := hp
  replace hF := FE.bdX hF hC
  show GW κ 4 0 0 (wX q d I4098 A4098) 9 [(0, .ref (q 0)), (1, .int z1), (2, .int z2), (3, .int z3)] [.int y4095]
  refine g_if_ne (tgt := 14) (a := y4095.toInt) hk dX11_bound_9 (by decide) rfl (fun c4099 => ?_) (fun c4099 => ?_)
  · skip
    replace hF := FE.pos hF c4099
    refine g_iload_n hk dX11_bound_14 rfl ?_
    by_cases c4100 : z3.toInt = 0
    · refine g_tabIn (tgt := 40) (a := 0) hk dX11_bound_15 c4100 (by decide) (by decide) rfl (by decide) ?_
      replace hF := FE.pos hF c4100
      refine g_aload_n hk dX11_bound_40 rfl ?_
      refine gX_r0_7 hk hin11 (List.mem_cons_of_mem _ (List.mem_append_left _ (List.mem_of_getElem? (i := 0) rfl))) dX11_bound_41 ?_
      refine gX_r37_3 hk hin0 (List.mem_cons_of_mem _ (List.mem_append_left _ (List.mem_of_getElem? (i := 5) rfl))) dX11_bound_44 ?_
      refine g_callV (n := 0) hk (k239_X2_endsBound l D zt q d I4098 A4098  hV4098) (SP.same _) (fun _ h => h) (gi_V (List.mem_cons_of_mem _ (List.mem_append_left _ (List.mem_of_getElem? (i := 6) rfl))) (List.mem_cons_of_mem _ (List.mem_append_left _ (List.mem_of_getElem? (i := 7) rfl))) (List.mem_cons_of_mem _ (List.mem_append_left _ (List.mem_of_getElem? (i := 8) rfl))) (List.mem_cons_of_mem _ (List.mem_append_left _ (List.mem_of_getElem? (i := 9) rfl))) (gi_sub (fun w h => (List.mem_cons_of_mem _ (List.mem_append_right _ (List.mem_append_right _ (List.mem_append_right _ (List.mem_append_right _ (List.mem_append_left _ h))))))) zg_k239_X2_endsBound)) rfl rfl rfl (by decide +kernel) ⟨Nat.le_of_ble_eq_true rfl, Nat.le_of_ble_eq_true rfl⟩ 38 rfl rfl rfl rfl (Nat.le_of_ble_eq_true rfl) ⟨Nat.le_of_ble_eq_true rfl, Nat.le_of_ble_eq_true rfl⟩ dX11_bound_47 (fun v ty' w' hp hk' => ?_)
      obtain ⟨y4109, hC, rfl, rfl⟩ := hp
      replace hF := FE.lt hF (fe_s hC)
      show GW κ 4 0 0 (wX q d I4098 A4098) 50 [(0, .ref (q 0)), (1, .int z1), (2, .int z2), (3, .int z3)] [.int y4109]
      have b4110l := Int32.le_toInt y4109
      have b4110h := Int32.toInt_lt y4109
      exact g_iret hk hR rfl ⟨I4098, A4098, (show Md [28, 30, 31, 32] I I4098 from (Md.tr Md.rf hI4098 rfl)), (show Md [21, 22] A A4098 from (Md.tr Md.rf hA4098 rfl)), hV4098, y4109, hF, rfl, rfl⟩ dX11_bound_50
    replace hF := FE.neg hF c4100
    by_cases c4111 : z3.toInt = 1
    · refine g_tabIn (tgt := 51) (a := 1) hk dX11_bound_15 c4111 (by decide) (by decide) rfl (by decide) ?_
      replace hF := FE.pos hF c4111
      refine g_aload_n hk dX11_bound_51 rfl ?_
      refine gX_r0_7 hk hin11 (List.mem_cons_of_mem _ (List.mem_append_left _ (List.mem_of_getElem? (i := 0) rfl))) dX11_bound_52 ?_
      refine gX_r37_3 hk hin0 (List.mem_cons_of_mem _ (List.mem_append_left _ (List.mem_of_getElem? (i := 5) rfl))) dX11_bound_55 ?_
      refine g_callV (n := 0) hk (k240_X2_overBound l D zt q d I4098 A4098  hV4098) (SP.same _) (fun _ h => h) (gi_V (List.mem_cons_of_mem _ (List.mem_append_left _ (List.mem_of_getElem? (i := 10) rfl))) (List.mem_cons_of_mem _ (List.mem_append_left _ (List.mem_of_getElem? (i := 11) rfl))) (List.mem_cons_of_mem _ (List.mem_append_left _ (List.mem_of_getElem? (i := 12) rfl))) (List.mem_cons_of_mem _ (List.mem_append_left _ (List.mem_of_getElem? (i := 9) rfl))) (gi_sub (fun w h => (List.mem_cons_of_mem _ (List.mem_append_right _ (List.mem_append_right _ (List.mem_append_right _ (List.mem_append_right _ (List.mem_append_right _ (List.mem_append_left _ h)))))))) zg_k240_X2_overBound)) rfl rfl rfl (by decide +kernel) ⟨Nat.le_of_ble_eq_true rfl, Nat.le_of_ble_eq_true rfl⟩ 38 rfl rfl rfl rfl (Nat.le_of_ble_eq_true rfl) ⟨Nat.le_of_ble_eq_true rfl, Nat.le_of_ble_eq_true rfl⟩ dX11_bound_58 (fun v ty' w' hp hk' => ?_)
      obtain ⟨y4247, hC, rfl, rfl⟩ := hp
      replace hF := FE.lt hF (fe_s hC)
      show GW κ 4 0 0 (wX q d I4098 A4098) 61 [(0, .ref (q 0)), (1, .int z1), (2, .int z2), (3, .int z3)] [.int y4247]
      have b4248l := Int32.le_toInt y4247
      have b4248h := Int32.toInt_lt y4247
      exact g_iret hk hR rfl ⟨I4098, A4098, (show Md [28, 30, 31, 32] I I4098 from (Md.tr Md.rf hI4098 rfl)), (show Md [21, 22] A A4098 from (Md.tr Md.rf hA4098 rfl)), hV4098, y4247, hF, rfl, rfl⟩ dX11_bound_61
    replace hF := FE.neg hF c4111
    by_cases c4249 : z3.toInt = 2
    · refine g_tabIn (tgt := 62) (a := 2) hk dX11_bound_15 c4249 (by decide) (by decide) rfl (by decide) ?_
      replace hF := FE.pos hF c4249
      refine g_aload_n hk dX11_bound_62 rfl ?_
      refine gX_r0_7 hk hin11 (List.mem_cons_of_mem _ (List.mem_append_left _ (List.mem_of_getElem? (i := 0) rfl))) dX11_bound_63 ?_
      refine gX_r37_3 hk hin0 (List.mem_cons_of_mem _ (List.mem_append_left _ (List.mem_of_getElem? (i := 5) rfl))) dX11_bound_66 ?_
      refine g_callV (n := 0) hk (k243_X2_backBound l D zt q d I4098 A4098  hV4098) (SP.same _) (fun _ h => h) (gi_V (List.mem_cons_of_mem _ (List.mem_append_left _ (List.mem_of_getElem? (i := 13) rfl))) (List.mem_cons_of_mem _ (List.mem_append_left _ (List.mem_of_getElem? (i := 14) rfl))) (List.mem_cons_of_mem _ (List.mem_append_left _ (List.mem_of_getElem? (i := 15) rfl))) (List.mem_cons_of_mem _ (List.mem_append_left _ (List.mem_of_getElem? (i := 9) rfl))) (gi_sub (fun w h => (List.mem_cons_of_mem _ (List.mem_append_right _ (List.mem_append_right _ (List.mem_append_right _ (List.mem_append_right _ (List.mem_append_right _ (List.mem_append_right _ (List.mem_append_left _ h))))))))) zg_k243_X2_backBound)) rfl rfl rfl (by decide +kernel) ⟨Nat.le_of_ble_eq_true rfl, Nat.le_of_ble_eq_true rfl⟩ 38 rfl rfl rfl rfl (Nat.le_of_ble_eq_true rfl) ⟨Nat.le_of_ble_eq_true rfl, Nat.le_of_ble_eq_true rfl⟩ dX11_bound_69 (fun v ty' w' hp hk' => ?_)
      obtain ⟨y4385, hC, rfl, rfl⟩ := hp
      replace hF := FE.lt hF (fe_s hC)
      show GW κ 4 0 0 (wX q d I4098 A4098) 72 [(0, .ref (q 0)), (1, .int z1), (2, .int z2), (3, .int z3)] [.int y4385]
      have b4386l := Int32.le_toInt y4385
      have b4386h := Int32.toInt_lt y4385
      exact g_iret hk hR rfl ⟨I4098, A4098, (show Md [28, 30, 31, 32] I I4098 from (Md.tr Md.rf hI4098 rfl)), (show Md [21, 22] A A4098 from (Md.tr Md.rf hA4098 rfl)), hV4098, y4385, hF, rfl, rfl⟩ dX11_bound_72
    replace hF := FE.neg hF c4249
    refine g_tabOut (tgt := 73) (a := z3.toInt) hk dX11_bound_15 rfl (by omega) (by decide) ?_
    refine g_iconst (v := (-1)) hk dX11_bound_73 (by decide) ?_
    exact g_iret hk hR rfl ⟨I4098, A4098, (show Md [28, 30, 31, 32] I I4098 from (Md.tr Md.rf hI4098 rfl)), (show Md [21, 22] A A4098 from (Md.tr Md.rf hA4098 rfl)), hV4098, (-1), hF, rfl, rfl⟩ dX11_bound_74
  · skip
    replace hF := FE.neg hF c4099
    refine g_iconst (v := (-1)) hk dX11_bound_12 (by decide) ?_
    exact g_iret hk hR rfl ⟨I4098, A4098, (show Md [28, 30, 31, 32] I I4098 from (Md.tr Md.rf hI4098 rfl)), (show Md [21, 22] A A4098 from (Md.tr Md.rf hA4098 rfl)), hV4098, (-1), hF, rfl, rfl⟩ dX11_bound_13
noncomputable def fX2_lookAt (I : Nat → Int32) (A : Nat → Nat → Int32) (z1 : Int32) : Int32 × (Nat → Int32) × (Nat → Nat → Int32) := f_lt (fX2_endsBound (upd (upd I 33 0) 34 (-2)) A) fun y4397 => if y4397.toInt < z1.toInt then f_lt (fX2_envelopeBound (upd (upd I 33 0) 34 (-2)) A) fun y4401 => if y4401.toInt < z1.toInt then f_lt (fX2_envelopeBound_2 (upd (upd I 33 0) 34 (-2)) A) fun y4404 => if y4404.toInt < z1.toInt then f_bdX (fX2_layTable (upd (upd I 33 0) 34 (-2)) A z1) fun _ I4408 A4408 => if (I4408 34).toInt = (-2) then f_lt (fX2_laidDistance I4408 A4408) fun y4411 => if y4411.toInt < z1.toInt then (0, I4408, A4408) else (5, I4408, A4408) else (4, I4408, A4408) else (3, (upd (upd I 33 0) 34 (-2)), A) else (2, (upd (upd I 33 0) 34 (-2)), A) else (1, (upd (upd I 33 0) 34 (-2)), A)
def wo_k247_X2_lookAt : List Cond := [Cond.fieldLink RX2 76 "WarpDesk$Fit" "cells" "I", Cond.fieldLink RX2 79 "WarpDesk$Fit" "brokenRow" "I", Cond.methodLink RX2 82 yX2_endsBound, Cond.instanceMethod yX2_endsBound, Cond.selects RX2 yX2_endsBound yX2_endsBound, Cond.initialized RX2, Cond.fieldLink RX2 15 "WarpDesk$Fit" "right" "[I", Cond.fieldLink RX2 9 "WarpDesk$Fit" "left" "[I", Cond.methodLink RX2 68 yX2_envelopeBound, Cond.instanceMethod yX2_envelopeBound, Cond.selects RX2 yX2_envelopeBound yX2_envelopeBound, Cond.methodLink RX2 86 yX2_layTable, Cond.instanceMethod yX2_layTable, Cond.selects RX2 yX2_layTable yX2_layTable, Cond.methodLink RX2 90 yX2_laidDistance, Cond.instanceMethod yX2_laidDistance, Cond.selects RX2 yX2_laidDistance yX2_laidDistance]
def wz_k247_X2_lookAt : List Cond := .code yX2_lookAt cX2_lookAt 2 (some .int) :: (wo_k247_X2_lookAt ++ (wsX20 ++ (wz_k239_X2_endsBound ++ (wz_k241_X2_envelopeBound ++ (wz_k241_X2_envelopeBound ++ (wz_k233_X2_layTable ++ (wz_k237_X2_laidDistance ++ ([] : List Cond))))))))
theorem zg_k247_X2_lookAt : ∀ w ∈ wz_k247_X2_lookAt, goodWord w = true := zg_cons rfl (zg_app (by decide +kernel) (zg_app zgU_wsX20 (zg_app zg_k239_X2_endsBound (zg_app zg_k241_X2_envelopeBound (zg_app zg_k241_X2_envelopeBound (zg_app zg_k233_X2_layTable (zg_app zg_k237_X2_laidDistance zg_nil)))))))
theorem zi_k247_X2_lookAt : ∀ w ∈ wz_k247_X2_lookAt, w ∈ lw_tbl := zi_cons zw_1048 (zi_app (zi_cons zw_347 (zi_cons zw_350 (zi_cons zw_1049 (zi_cons zw_1022 (zi_cons zw_1023 (zi_cons zw_112 (zi_cons zw_337 (zi_cons zw_334 (zi_cons zw_1029 (zi_cons zw_1031 (zi_cons zw_32 (zi_cons zw_997 (zi_cons zw_999 (zi_cons zw_28 (zi_cons zw_1013 (zi_cons zw_1014 (zi_cons zw_1015 zi_nil))))))))))))))))) (zi_app inX2 (zi_app zi_k239_X2_endsBound (zi_app zi_k241_X2_envelopeBound (zi_app zi_k241_X2_envelopeBound (zi_app zi_k233_X2_layTable (zi_app zi_k237_X2_laidDistance zi_nil)))))))
set_option maxHeartbeats 4000000 in
set_option maxRecDepth 100000 in
theorem k247_X2_lookAt (l : Launch) (D : va_G) (zt : Nat × Nat × Nat × (Nat → Nat) × (Nat → Nat)) (q : Nat → Nat) (d : Nat → ClassId) (I : Nat → Int32) (A : Nat → Nat → Int32) (z1 : Int32) (hIv : IvX I A) : GM l D zt (tyX d) yX2_lookAt wz_k247_X2_lookAt ({ frames := 3, cells := 0, slots := 0, locals := 76 } : Room) [.ref (q 38), .int z1] (wX q d I A) (fun v _ w' => ∃ (I' : Nat → Int32) (A' : Nat → Nat → Int32), Md [33, 34] I I' ∧ Md [23] A A' ∧ IvX I' A' ∧ ∃ y0 : Int32, (0 ≤ y0.toInt) ∧ (y0.toInt ≤ 5) ∧ FE (fX2_lookAt I A z1) (y0, I', A') ∧ v = some (.int y0) ∧ w' = wX q d I' A') 0 0 := by
  refine GM.of (cc := cX2_lookAt) (maxL := 2) (ret := (some .int)) (own := RX2) (lv := [(0, .ref (q 38)), (1, .int z1)]) (by decide) rfl rfl (Nat.le_of_ble_eq_true rfl) rfl (fun κ sz hk hR hN => ?_)
  have hin2 : ∀ w ∈ u_ws RX2 TX2 10, w ∈ wz_k247_X2_lookAt := fun w h => (List.mem_cons_of_mem _ (List.mem_append_right _ (List.mem_append_left _ h)))
  have hF : FE (fX2_lookAt I A z1) (fX2_lookAt I A z1) := FE.rf
  refine g_aload_n hk dX2_lookAt_0 rfl ?_
  refine g_iconst (v := 0) hk dX2_lookAt_1 (by decide) ?_
  refine pX_i33 hk hin2 (List.mem_cons_of_mem _ (List.mem_append_left _ (List.mem_of_getElem? (i := 0) rfl))) dX2_lookAt_2 ?_
  refine g_aload_n hk dX2_lookAt_5 rfl ?_
  refine g_bipush (v := (-2)) hk dX2_lookAt_6 (by decide) ?_
  refine pX_i34 hk hin2 (List.mem_cons_of_mem _ (List.mem_append_left _ (List.mem_of_getElem? (i := 1) rfl))) dX2_lookAt_8 ?_
  refine g_aload_n hk dX2_lookAt_11 rfl ?_
  refine g_callV (n := 0) hk (k239_X2_endsBound l D zt q d (upd (upd I 33 0) 34 (-2)) A  ⟨(IvX_f0 (I := I) (A := A) hIv), (IvX_f18 (I := I) (A := A) hIv), (IvX_f30 (I := I) (A := A) hIv), (IvX_f31 (I := I) (A := A) hIv), (IvX_a4 (I := I) (A := A) hIv), (IvX_a9 (I := I) (A := A) hIv), trivial⟩) (SP.same _) (fun _ h => h) (gi_V (List.mem_cons_of_mem _ (List.mem_append_left _ (List.mem_of_getElem? (i := 2) rfl))) (List.mem_cons_of_mem _ (List.mem_append_left _ (List.mem_of_getElem? (i := 3) rfl))) (List.mem_cons_of_mem _ (List.mem_append_left _ (List.mem_of_getElem? (i := 4) rfl))) (List.mem_cons_of_mem _ (List.mem_append_left _ (List.mem_of_getElem? (i := 5) rfl))) (gi_sub (fun w h => (List.mem_cons_of_mem _ (List.mem_append_right _ (List.mem_append_right _ (List.mem_append_left _ h))))) zg_k239_X2_endsBound)) rfl rfl rfl (by decide +kernel) ⟨Nat.le_of_ble_eq_true rfl, Nat.le_of_ble_eq_true rfl⟩ 38 rfl rfl rfl rfl (Nat.le_of_ble_eq_true rfl) ⟨Nat.le_of_ble_eq_true rfl, Nat.le_of_ble_eq_true rfl⟩ dX2_lookAt_12 (fun v ty' w' hp hk' => ?_)
  obtain ⟨y4397, hC, rfl, rfl⟩ := hp
  replace hF := FE.lt hF (fe_s hC)
  show GW κ 2 0 0 (wX q d (upd (upd I 33 0) 34 (-2)) A) 15 [(0, .ref (q 38)), (1, .int z1)] [.int y4397]
  refine g_iload_n hk dX2_lookAt_15 rfl ?_
  have b4398l := Int32.le_toInt y4397
  have b4398h := Int32.toInt_lt y4397
  have b4399l := Int32.le_toInt z1
  have b4399h := Int32.toInt_lt z1
  refine g_icmp_lt (tgt := 21) (a := y4397.toInt) (b := z1.toInt) hk dX2_lookAt_16 (by decide) rfl rfl (fun c4400 => ?_) (fun c4400 => ?_)
  · skip
    replace hF := FE.pos hF c4400
    refine g_aload_n hk dX2_lookAt_21 rfl ?_
    refine g_aload_n hk dX2_lookAt_22 rfl ?_
    refine gX_r38_1 hk hin2 (List.mem_cons_of_mem _ (List.mem_append_left _ (List.mem_of_getElem? (i := 6) rfl))) dX2_lookAt_23 ?_
    refine g_aload_n hk dX2_lookAt_26 rfl ?_
    refine gX_r38_0 hk hin2 (List.mem_cons_of_mem _ (List.mem_append_left _ (List.mem_of_getElem? (i := 7) rfl))) dX2_lookAt_27 ?_
    refine g_callV (n := 2) hk (k241_X2_envelopeBound l D zt q d (upd (upd I 33 0) 34 (-2)) A  ⟨(IvX_f0 (I := I) (A := A) hIv), (IvX_f18 (I := I) (A := A) hIv), (IvX_f30 (I := I) (A := A) hIv), (IvX_f31 (I := I) (A := A) hIv), (IvX_a4 (I := I) (A := A) hIv), (IvX_a9 (I := I) (A := A) hIv), trivial⟩) (SP.same _) (fun _ h => h) (gi_V (List.mem_cons_of_mem _ (List.mem_append_left _ (List.mem_of_getElem? (i := 8) rfl))) (List.mem_cons_of_mem _ (List.mem_append_left _ (List.mem_of_getElem? (i := 9) rfl))) (List.mem_cons_of_mem _ (List.mem_append_left _ (List.mem_of_getElem? (i := 10) rfl))) (List.mem_cons_of_mem _ (List.mem_append_left _ (List.mem_of_getElem? (i := 5) rfl))) (gi_sub (fun w h => (List.mem_cons_of_mem _ (List.mem_append_right _ (List.mem_append_right _ (List.mem_append_right _ (List.mem_append_left _ h)))))) zg_k241_X2_envelopeBound)) rfl rfl rfl (by decide +kernel) ⟨Nat.le_of_ble_eq_true rfl, Nat.le_of_ble_eq_true rfl⟩ 38 rfl rfl rfl rfl (Nat.le_of_ble_eq_true rfl) ⟨Nat.le_of_ble_eq_true rfl, Nat.le_of_ble_eq_true rfl⟩ dX2_lookAt_30 (fun v ty' w' hp hk' => ?_)
    obtain ⟨y4401, hC, rfl, rfl⟩ := hp
    replace hF := FE.lt hF (fe_s hC)
    show GW κ 2 0 0 (wX q d (upd (upd I 33 0) 34 (-2)) A) 33 [(0, .ref (q 38)), (1, .int z1)] [.int y4401]
    refine g_iload_n hk dX2_lookAt_33 rfl ?_
    have b4402l := Int32.le_toInt y4401
    have b4402h := Int32.toInt_lt y4401
    refine g_icmp_lt (tgt := 39) (a := y4401.toInt) (b := z1.toInt) hk dX2_lookAt_34 (by decide) rfl rfl (fun c4403 => ?_) (fun c4403 => ?_)
    · skip
      replace hF := FE.pos hF c4403
      refine g_aload_n hk dX2_lookAt_39 rfl ?_
      refine g_aload_n hk dX2_lookAt_40 rfl ?_
      refine gX_r38_0 hk hin2 (List.mem_cons_of_mem _ (List.mem_append_left _ (List.mem_of_getElem? (i := 7) rfl))) dX2_lookAt_41 ?_
      refine g_aload_n hk dX2_lookAt_44 rfl ?_
      refine gX_r38_1 hk hin2 (List.mem_cons_of_mem _ (List.mem_append_left _ (List.mem_of_getElem? (i := 6) rfl))) dX2_lookAt_45 ?_
      refine g_callV (n := 2) hk (k244_X2_envelopeBound l D zt q d (upd (upd I 33 0) 34 (-2)) A  ⟨(IvX_f0 (I := I) (A := A) hIv), (IvX_f18 (I := I) (A := A) hIv), (IvX_f30 (I := I) (A := A) hIv), (IvX_f31 (I := I) (A := A) hIv), (IvX_a4 (I := I) (A := A) hIv), (IvX_a9 (I := I) (A := A) hIv), trivial⟩) (SP.same _) (fun _ h => h) (gi_V (List.mem_cons_of_mem _ (List.mem_append_left _ (List.mem_of_getElem? (i := 8) rfl))) (List.mem_cons_of_mem _ (List.mem_append_left _ (List.mem_of_getElem? (i := 9) rfl))) (List.mem_cons_of_mem _ (List.mem_append_left _ (List.mem_of_getElem? (i := 10) rfl))) (List.mem_cons_of_mem _ (List.mem_append_left _ (List.mem_of_getElem? (i := 5) rfl))) (gi_sub (fun w h => (List.mem_cons_of_mem _ (List.mem_append_right _ (List.mem_append_right _ (List.mem_append_right _ (List.mem_append_right _ (List.mem_append_left _ h))))))) zg_k241_X2_envelopeBound)) rfl rfl rfl (by decide +kernel) ⟨Nat.le_of_ble_eq_true rfl, Nat.le_of_ble_eq_true rfl⟩ 38 rfl rfl rfl rfl (Nat.le_of_ble_eq_true rfl) ⟨Nat.le_of_ble_eq_true rfl, Nat.le_of_ble_eq_true rfl⟩ dX2_lookAt_48 (fun v ty' w' hp hk' => ?_)
      obtain ⟨y4404, hC, rfl, rfl⟩ := hp
      replace hF := FE.lt hF (fe_s hC)
      show GW κ 2 0 0 (wX q d (upd (upd I 33 0) 34 (-2)) A) 51 [(0, .ref (q 38)), (1, .int z1)] [.int y4404]
      refine g_iload_n hk dX2_lookAt_51 rfl ?_
      have b4405l := Int32.le_toInt y4404
      have b4405h := Int32.toInt_lt y4404
      refine g_icmp_lt (tgt := 57) (a := y4404.toInt) (b := z1.toInt) hk dX2_lookAt_52 (by decide) rfl rfl (fun c4406 => ?_) (fun c4406 => ?_)
      · skip
        replace hF := FE.pos hF c4406
        refine g_aload_n hk dX2_lookAt_57 rfl ?_
        refine g_iload_n hk dX2_lookAt_58 rfl ?_
        refine g_callV (n := 1) hk (k233_X2_layTable l D zt q d (upd (upd I 33 0) 34 (-2)) A z1 ⟨(IvX_f0 (I := I) (A := A) hIv), (IvX_f18 (I := I) (A := A) hIv), (IvX_f30 (I := I) (A := A) hIv), (IvX_f31 (I := I) (A := A) hIv), (IvX_a4 (I := I) (A := A) hIv), (IvX_a9 (I := I) (A := A) hIv), trivial⟩) (SP.same _) (fun _ h => h) (gi_V (List.mem_cons_of_mem _ (List.mem_append_left _ (List.mem_of_getElem? (i := 11) rfl))) (List.mem_cons_of_mem _ (List.mem_append_left _ (List.mem_of_getElem? (i := 12) rfl))) (List.mem_cons_of_mem _ (List.mem_append_left _ (List.mem_of_getElem? (i := 13) rfl))) (List.mem_cons_of_mem _ (List.mem_append_left _ (List.mem_of_getElem? (i := 5) rfl))) (gi_sub (fun w h => (List.mem_cons_of_mem _ (List.mem_append_right _ (List.mem_append_right _ (List.mem_append_right _ (List.mem_append_right _ (List.mem_append_right _ (List.mem_append_left _ h)))))))) zg_k233_X2_layTable)) rfl rfl rfl (by decide +kernel) ⟨Nat.le_of_ble_eq_true rfl, Nat.le_of_ble_eq_true rfl⟩ 38 rfl rfl rfl rfl (Nat.le_of_ble_eq_true rfl) ⟨Nat.le_of_ble_eq_true rfl, Nat.le_of_ble_eq_true rfl⟩ dX2_lookAt_59 (fun v ty' w' hp hk' => ?_)
        obtain ⟨I4408, A4408, hI4408, hA4408, hV4408, hC, rfl, rfl⟩ := hp
        replace hF := FE.bdX hF hC
        show GW κ 2 0 0 (wX q d I4408 A4408) 62 [(0, .ref (q 38)), (1, .int z1)] []
        refine g_aload_n hk dX2_lookAt_62 rfl ?_
        refine gX_i34 (v := (I4408 34)) hk hin2 (List.mem_cons_of_mem _ (List.mem_append_left _ (List.mem_of_getElem? (i := 1) rfl))) dX2_lookAt_63 rfl ?_
        refine g_bipush (v := (-2)) hk dX2_lookAt_66 (by decide) ?_
        have b4409l := Int32.le_toInt (I4408 34)
        have b4409h := Int32.toInt_lt (I4408 34)
        refine g_icmp_eq (tgt := 73) (a := (I4408 34).toInt) (b := (-2)) hk dX2_lookAt_68 (by decide) rfl rfl (fun c4410 => ?_) (fun c4410 => ?_)
        · skip
          replace hF := FE.pos hF c4410
          refine g_aload_n hk dX2_lookAt_73 rfl ?_
          refine g_callV (n := 0) hk (k237_X2_laidDistance l D zt q d I4408 A4408  hV4408) (SP.same _) (fun _ h => h) (gi_V (List.mem_cons_of_mem _ (List.mem_append_left _ (List.mem_of_getElem? (i := 14) rfl))) (List.mem_cons_of_mem _ (List.mem_append_left _ (List.mem_of_getElem? (i := 15) rfl))) (List.mem_cons_of_mem _ (List.mem_append_left _ (List.mem_of_getElem? (i := 16) rfl))) (List.mem_cons_of_mem _ (List.mem_append_left _ (List.mem_of_getElem? (i := 5) rfl))) (gi_sub (fun w h => (List.mem_cons_of_mem _ (List.mem_append_right _ (List.mem_append_right _ (List.mem_append_right _ (List.mem_append_right _ (List.mem_append_right _ (List.mem_append_right _ (List.mem_append_left _ h))))))))) zg_k237_X2_laidDistance)) rfl rfl rfl (by decide +kernel) ⟨Nat.le_of_ble_eq_true rfl, Nat.le_of_ble_eq_true rfl⟩ 38 rfl rfl rfl rfl (Nat.le_of_ble_eq_true rfl) ⟨Nat.le_of_ble_eq_true rfl, Nat.le_of_ble_eq_true rfl⟩ dX2_lookAt_74 (fun v ty' w' hp hk' => ?_)
          obtain ⟨y4411, hC, rfl, rfl⟩ := hp
          replace hF := FE.lt hF (fe_s hC)
          show GW κ 2 0 0 (wX q d I4408 A4408) 77 [(0, .ref (q 38)), (1, .int z1)] [.int y4411]
          refine g_iload_n hk dX2_lookAt_77 rfl ?_
          have b4412l := Int32.le_toInt y4411
          have b4412h := Int32.toInt_lt y4411
          refine g_icmp_lt (tgt := 85) (a := y4411.toInt) (b := z1.toInt) hk dX2_lookAt_78 (by decide) rfl rfl (fun c4413 => ?_) (fun c4413 => ?_)
          · skip
            replace hF := FE.pos hF c4413
            refine g_iconst (v := 0) hk dX2_lookAt_85 (by decide) ?_
            exact g_iret hk hR rfl ⟨I4408, A4408, (show Md [33, 34] I I4408 from (Md.tr (Md.up (Md.up Md.rf rfl) rfl) hI4408 rfl)), (show Md [23] A A4408 from (Md.tr Md.rf hA4408 rfl)), hV4408, 0, (by decide), (by decide), hF, rfl, rfl⟩ dX2_lookAt_86
          · skip
            replace hF := FE.neg hF c4413
            refine g_iconst (v := 5) hk dX2_lookAt_81 (by decide) ?_
            refine g_goto (tgt := 86) hk dX2_lookAt_82 (by decide) ?_
            exact g_iret hk hR rfl ⟨I4408, A4408, (show Md [33, 34] I I4408 from (Md.tr (Md.up (Md.up Md.rf rfl) rfl) hI4408 rfl)), (show Md [23] A A4408 from (Md.tr Md.rf hA4408 rfl)), hV4408, 5, (by decide), (by decide), hF, rfl, rfl⟩ dX2_lookAt_86
        · skip
          replace hF := FE.neg hF c4410
          refine g_iconst (v := 4) hk dX2_lookAt_71 (by decide) ?_
          exact g_iret hk hR rfl ⟨I4408, A4408, (show Md [33, 34] I I4408 from (Md.tr (Md.up (Md.up Md.rf rfl) rfl) hI4408 rfl)), (show Md [23] A A4408 from (Md.tr Md.rf hA4408 rfl)), hV4408, 4, (by decide), (by decide), hF, rfl, rfl⟩ dX2_lookAt_72
      · skip
        replace hF := FE.neg hF c4406
        refine g_iconst (v := 3) hk dX2_lookAt_55 (by decide) ?_
        exact g_iret hk hR rfl ⟨(upd (upd I 33 0) 34 (-2)), A, (show Md [33, 34] I (upd (upd I 33 0) 34 (-2)) from (Md.up (Md.up Md.rf rfl) rfl)), (show Md [23] A A from Md.rf), ⟨(IvX_f0 (I := I) (A := A) hIv), (IvX_f18 (I := I) (A := A) hIv), (IvX_f30 (I := I) (A := A) hIv), (IvX_f31 (I := I) (A := A) hIv), (IvX_a4 (I := I) (A := A) hIv), (IvX_a9 (I := I) (A := A) hIv), trivial⟩, 3, (by decide), (by decide), hF, rfl, rfl⟩ dX2_lookAt_56
    · skip
      replace hF := FE.neg hF c4403
      refine g_iconst (v := 2) hk dX2_lookAt_37 (by decide) ?_
      exact g_iret hk hR rfl ⟨(upd (upd I 33 0) 34 (-2)), A, (show Md [33, 34] I (upd (upd I 33 0) 34 (-2)) from (Md.up (Md.up Md.rf rfl) rfl)), (show Md [23] A A from Md.rf), ⟨(IvX_f0 (I := I) (A := A) hIv), (IvX_f18 (I := I) (A := A) hIv), (IvX_f30 (I := I) (A := A) hIv), (IvX_f31 (I := I) (A := A) hIv), (IvX_a4 (I := I) (A := A) hIv), (IvX_a9 (I := I) (A := A) hIv), trivial⟩, 2, (by decide), (by decide), hF, rfl, rfl⟩ dX2_lookAt_38
  · skip
    replace hF := FE.neg hF c4400
    refine g_iconst (v := 1) hk dX2_lookAt_19 (by decide) ?_
    exact g_iret hk hR rfl ⟨(upd (upd I 33 0) 34 (-2)), A, (show Md [33, 34] I (upd (upd I 33 0) 34 (-2)) from (Md.up (Md.up Md.rf rfl) rfl)), (show Md [23] A A from Md.rf), ⟨(IvX_f0 (I := I) (A := A) hIv), (IvX_f18 (I := I) (A := A) hIv), (IvX_f30 (I := I) (A := A) hIv), (IvX_f31 (I := I) (A := A) hIv), (IvX_a4 (I := I) (A := A) hIv), (IvX_a9 (I := I) (A := A) hIv), trivial⟩, 1, (by decide), (by decide), hF, rfl, rfl⟩ dX2_lookAt_20
noncomputable def fX11_look (I : Nat → Int32) (A : Nat → Nat → Int32) (z1 : Int32) (z2 : Int32) (z3 : Int32) (z4 : Int32) : Int32 × (Nat → Int32) × (Nat → Nat → Int32) := if z3.toInt < 0 then ((-1), I, A) else if z4.toInt < 0 then ((-1), I, A) else if 2 < z4.toInt then ((-1), I, A) else f_bdX (fX0_openBoth I A z1 z2) fun y4392 I4395 A4395 => if y4392.toInt ≠ 0 then f_bdX (fX2_lookAt I4395 A4395 z3) fun y4414 I4417 A4417 => if z4.toInt ≠ 0 then if z4.toInt ≠ 1 then ((I4417 34), I4417, A4417) else ((I4417 33), I4417, A4417) else (y4414, I4417, A4417) else ((-1), I4395, A4395)
def wo_k246_X11_look : List Cond := [Cond.fieldLink RX11 65 "WarpDesk" "bench" "LWarpDesk$Bench;", Cond.methodLink RX11 212 yX0_openBoth, Cond.instanceMethod yX0_openBoth, Cond.selects RX0 yX0_openBoth yX0_openBoth, Cond.initialized RX0, Cond.fieldLink RX11 202 "WarpDesk$Bench" "fit" "LWarpDesk$Fit;", Cond.methodLink RX11 227 yX2_lookAt, Cond.instanceMethod yX2_lookAt, Cond.selects RX2 yX2_lookAt yX2_lookAt, Cond.initialized RX2, Cond.fieldLink RX11 233 "WarpDesk$Fit" "brokenRow" "I", Cond.fieldLink RX11 230 "WarpDesk$Fit" "cells" "I"]
def wz_k246_X11_look : List Cond := .code yX11_look cX11_look 6 (some .int) :: (wo_k246_X11_look ++ (wsX00 ++ (wsX20 ++ (wsX110 ++ (wz_k222_X0_openBoth ++ (wz_k247_X2_lookAt ++ ([] : List Cond)))))))
theorem zg_k246_X11_look : ∀ w ∈ wz_k246_X11_look, goodWord w = true := zg_cons rfl (zg_app (by decide +kernel) (zg_app zgU_wsX00 (zg_app zgU_wsX20 (zg_app zgU_wsX110 (zg_app zg_k222_X0_openBoth (zg_app zg_k247_X2_lookAt zg_nil))))))
theorem zi_k246_X11_look : ∀ w ∈ wz_k246_X11_look, w ∈ lw_tbl := zi_cons zw_1044 (zi_app (zi_cons zw_494 (zi_cons zw_969 (zi_cons zw_970 (zi_cons zw_971 (zi_cons zw_111 (zi_cons zw_383 (zi_cons zw_1045 (zi_cons zw_1046 (zi_cons zw_1047 (zi_cons zw_112 (zi_cons zw_351 (zi_cons zw_348 zi_nil)))))))))))) (zi_app inX0 (zi_app inX2 (zi_app inX11 (zi_app zi_k222_X0_openBoth (zi_app zi_k247_X2_lookAt zi_nil))))))
set_option maxHeartbeats 4000000 in
set_option maxRecDepth 100000 in
theorem k246_X11_look (l : Launch) (D : va_G) (zt : Nat × Nat × Nat × (Nat → Nat) × (Nat → Nat)) (q : Nat → Nat) (d : Nat → ClassId) (I : Nat → Int32) (A : Nat → Nat → Int32) (z1 : Int32) (z2 : Int32) (z3 : Int32) (z4 : Int32) (hIv : IvX I A) : GM l D zt (tyX d) yX11_look wz_k246_X11_look ({ frames := 6, cells := 0, slots := 0, locals := 131 } : Room) [.ref (q 0), .int z1, .int z2, .int z3, .int z4] (wX q d I A) (fun v _ w' => ∃ (I' : Nat → Int32) (A' : Nat → Nat → Int32), Md [28, 30, 31, 32, 33, 34] I I' ∧ Md [21, 22, 23] A A' ∧ IvX I' A' ∧ ∃ y0 : Int32, FE (fX11_look I A z1 z2 z3 z4) (y0, I', A') ∧ v = some (.int y0) ∧ w' = wX q d I' A') 0 0 := by
  refine GM.of (cc := cX11_look) (maxL := 6) (ret := (some .int)) (own := RX11) (lv := [(0, .ref (q 0)), (1, .int z1), (2, .int z2), (3, .int z3), (4, .int z4)]) (by decide) rfl rfl (Nat.le_of_ble_eq_true rfl) rfl (fun κ sz hk hR hN => ?_)
  have hin0 : ∀ w ∈ u_ws RX0 TX0 5, w ∈ wz_k246_X11_look := fun w h => (List.mem_cons_of_mem _ (List.mem_append_right _ (List.mem_append_left _ h)))
  have hin2 : ∀ w ∈ u_ws RX2 TX2 10, w ∈ wz_k246_X11_look := fun w h => (List.mem_cons_of_mem _ (List.mem_append_right _ (List.mem_append_right _ (List.mem_append_left _ h))))
  have hin11 : ∀ w ∈ u_ws RX11 TX11 10, w ∈ wz_k246_X11_look := fun w h => (List.mem_cons_of_mem _ (List.mem_append_right _ (List.mem_append_right _ (List.mem_append_right _ (List.mem_append_left _ h)))))
  have hF : FE (fX11_look I A z1 z2 z3 z4) (fX11_look I A z1 z2 z3 z4) := FE.rf
  refine g_iload_n hk dX11_look_0 rfl ?_
  have b4387l := Int32.le_toInt z3
  have b4387h := Int32.toInt_lt z3
  refine g_if_lt (tgt := 27) (a := z3.toInt) hk dX11_look_1 (by decide) rfl (fun c4388 => ?_) (fun c4388 => ?_)
  · skip
    replace hF := FE.pos hF c4388
    refine g_iconst (v := (-1)) hk dX11_look_27 (by decide) ?_
    exact g_iret hk hR rfl ⟨I, A, (show Md [28, 30, 31, 32, 33, 34] I I from Md.rf), (show Md [21, 22, 23] A A from Md.rf), hIv, (-1), hF, rfl, rfl⟩ dX11_look_28
  · skip
    replace hF := FE.neg hF c4388
    refine g_iload hk dX11_look_4 rfl ?_
    have b4389l := Int32.le_toInt z4
    have b4389h := Int32.toInt_lt z4
    refine g_if_lt (tgt := 27) (a := z4.toInt) hk dX11_look_6 (by decide) rfl (fun c4390 => ?_) (fun c4390 => ?_)
    · skip
      replace hF := FE.pos hF c4390
      refine g_iconst (v := (-1)) hk dX11_look_27 (by decide) ?_
      exact g_iret hk hR rfl ⟨I, A, (show Md [28, 30, 31, 32, 33, 34] I I from Md.rf), (show Md [21, 22, 23] A A from Md.rf), hIv, (-1), hF, rfl, rfl⟩ dX11_look_28
    · skip
      replace hF := FE.neg hF c4390
      refine g_iload hk dX11_look_9 rfl ?_
      refine g_iconst (v := 2) hk dX11_look_11 (by decide) ?_
      refine g_icmp_gt (tgt := 27) (a := z4.toInt) (b := 2) hk dX11_look_12 (by decide) rfl rfl (fun c4391 => ?_) (fun c4391 => ?_)
      · skip
        replace hF := FE.pos hF c4391
        refine g_iconst (v := (-1)) hk dX11_look_27 (by decide) ?_
        exact g_iret hk hR rfl ⟨I, A, (show Md [28, 30, 31, 32, 33, 34] I I from Md.rf), (show Md [21, 22, 23] A A from Md.rf), hIv, (-1), hF, rfl, rfl⟩ dX11_look_28
      · skip
        replace hF := FE.neg hF c4391
        refine g_aload_n hk dX11_look_15 rfl ?_
        refine gX_r0_7 hk hin11 (List.mem_cons_of_mem _ (List.mem_append_left _ (List.mem_of_getElem? (i := 0) rfl))) dX11_look_16 ?_
        refine g_iload_n hk dX11_look_19 rfl ?_
        refine g_iload_n hk dX11_look_20 rfl ?_
        refine g_callV (n := 2) hk (k222_X0_openBoth l D zt q d I A z1 z2 hIv) (SP.same _) (fun _ h => h) (gi_V (List.mem_cons_of_mem _ (List.mem_append_left _ (List.mem_of_getElem? (i := 1) rfl))) (List.mem_cons_of_mem _ (List.mem_append_left _ (List.mem_of_getElem? (i := 2) rfl))) (List.mem_cons_of_mem _ (List.mem_append_left _ (List.mem_of_getElem? (i := 3) rfl))) (List.mem_cons_of_mem _ (List.mem_append_left _ (List.mem_of_getElem? (i := 4) rfl))) (gi_sub (fun w h => (List.mem_cons_of_mem _ (List.mem_append_right _ (List.mem_append_right _ (List.mem_append_right _ (List.mem_append_right _ (List.mem_append_left _ h))))))) zg_k222_X0_openBoth)) rfl rfl rfl (by decide +kernel) ⟨Nat.le_of_ble_eq_true rfl, Nat.le_of_ble_eq_true rfl⟩ 37 rfl rfl rfl rfl (Nat.le_of_ble_eq_true rfl) ⟨Nat.le_of_ble_eq_true rfl, Nat.le_of_ble_eq_true rfl⟩ dX11_look_21 (fun v ty' w' hp hk' => ?_)
        obtain ⟨I4395, A4395, hI4395, hA4395, hV4395, y4392, c4393, c4394, hC, rfl, rfl⟩ := hp
        replace hF := FE.bdX hF hC
        show GW κ 6 0 0 (wX q d I4395 A4395) 24 [(0, .ref (q 0)), (1, .int z1), (2, .int z2), (3, .int z3), (4, .int z4)] [.int y4392]
        refine g_if_ne (tgt := 29) (a := y4392.toInt) hk dX11_look_24 (by decide) rfl (fun c4396 => ?_) (fun c4396 => ?_)
        · skip
          replace hF := FE.pos hF c4396
          refine g_aload_n hk dX11_look_29 rfl ?_
          refine gX_r0_7 hk hin11 (List.mem_cons_of_mem _ (List.mem_append_left _ (List.mem_of_getElem? (i := 0) rfl))) dX11_look_30 ?_
          refine gX_r37_3 hk hin0 (List.mem_cons_of_mem _ (List.mem_append_left _ (List.mem_of_getElem? (i := 5) rfl))) dX11_look_33 ?_
          refine g_iload_n hk dX11_look_36 rfl ?_
          refine g_callV (n := 1) hk (k247_X2_lookAt l D zt q d I4395 A4395 z3 hV4395) (SP.same _) (fun _ h => h) (gi_V (List.mem_cons_of_mem _ (List.mem_append_left _ (List.mem_of_getElem? (i := 6) rfl))) (List.mem_cons_of_mem _ (List.mem_append_left _ (List.mem_of_getElem? (i := 7) rfl))) (List.mem_cons_of_mem _ (List.mem_append_left _ (List.mem_of_getElem? (i := 8) rfl))) (List.mem_cons_of_mem _ (List.mem_append_left _ (List.mem_of_getElem? (i := 9) rfl))) (gi_sub (fun w h => (List.mem_cons_of_mem _ (List.mem_append_right _ (List.mem_append_right _ (List.mem_append_right _ (List.mem_append_right _ (List.mem_append_right _ (List.mem_append_left _ h)))))))) zg_k247_X2_lookAt)) rfl rfl rfl (by decide +kernel) ⟨Nat.le_of_ble_eq_true rfl, Nat.le_of_ble_eq_true rfl⟩ 38 rfl rfl rfl rfl (Nat.le_of_ble_eq_true rfl) ⟨Nat.le_of_ble_eq_true rfl, Nat.le_of_ble_eq_true rfl⟩ dX11_look_37 (fun v ty' w' hp hk' => ?_)
          obtain ⟨I4417, A4417, hI4417, hA4417, hV4417, y4414, c4415, c4416, hC, rfl, rfl⟩ := hp
          replace hF := FE.bdX hF hC
          show GW κ 6 0 0 (wX q d I4417 A4417) 40 [(0, .ref (q 0)), (1, .int z1), (2, .int z2), (3, .int z3), (4, .int z4)] [.int y4414]
          refine g_istore (lv' := [(5, .int y4414), (0, .ref (q 0)), (1, .int z1), (2, .int z2), (3, .int z3), (4, .int z4)]) hk dX11_look_40 (by decide) rfl ?_
          refine g_iload hk dX11_look_42 rfl ?_
          refine g_if_ne (tgt := 50) (a := z4.toInt) hk dX11_look_44 (by decide) rfl (fun c4418 => ?_) (fun c4418 => ?_)
          · skip
            replace hF := FE.pos hF c4418
            refine g_iload hk dX11_look_50 rfl ?_
            refine g_iconst (v := 1) hk dX11_look_52 (by decide) ?_
            refine g_icmp_ne (tgt := 69) (a := z4.toInt) (b := 1) hk dX11_look_53 (by decide) rfl rfl (fun c4419 => ?_) (fun c4419 => ?_)
            · skip
              replace hF := FE.pos hF c4419
              refine g_aload_n hk dX11_look_69 rfl ?_
              refine gX_r0_7 hk hin11 (List.mem_cons_of_mem _ (List.mem_append_left _ (List.mem_of_getElem? (i := 0) rfl))) dX11_look_70 ?_
              refine gX_r37_3 hk hin0 (List.mem_cons_of_mem _ (List.mem_append_left _ (List.mem_of_getElem? (i := 5) rfl))) dX11_look_73 ?_
              refine gX_i34 (v := (I4417 34)) hk hin2 (List.mem_cons_of_mem _ (List.mem_append_left _ (List.mem_of_getElem? (i := 10) rfl))) dX11_look_76 rfl ?_
              have b4420l := Int32.le_toInt (I4417 34)
              have b4420h := Int32.toInt_lt (I4417 34)
              exact g_iret hk hR rfl ⟨I4417, A4417, (show Md [28, 30, 31, 32, 33, 34] I I4417 from (Md.tr (Md.tr Md.rf hI4395 rfl) hI4417 rfl)), (show Md [21, 22, 23] A A4417 from (Md.tr (Md.tr Md.rf hA4395 rfl) hA4417 rfl)), hV4417, (I4417 34), hF, rfl, rfl⟩ dX11_look_79
            · skip
              replace hF := FE.neg hF c4419
              refine g_aload_n hk dX11_look_56 rfl ?_
              refine gX_r0_7 hk hin11 (List.mem_cons_of_mem _ (List.mem_append_left _ (List.mem_of_getElem? (i := 0) rfl))) dX11_look_57 ?_
              refine gX_r37_3 hk hin0 (List.mem_cons_of_mem _ (List.mem_append_left _ (List.mem_of_getElem? (i := 5) rfl))) dX11_look_60 ?_
              refine gX_i33 (v := (I4417 33)) hk hin2 (List.mem_cons_of_mem _ (List.mem_append_left _ (List.mem_of_getElem? (i := 11) rfl))) dX11_look_63 rfl ?_
              refine g_goto (tgt := 79) hk dX11_look_66 (by decide) ?_
              have b4421l := Int32.le_toInt (I4417 33)
              have b4421h := Int32.toInt_lt (I4417 33)
              exact g_iret hk hR rfl ⟨I4417, A4417, (show Md [28, 30, 31, 32, 33, 34] I I4417 from (Md.tr (Md.tr Md.rf hI4395 rfl) hI4417 rfl)), (show Md [21, 22, 23] A A4417 from (Md.tr (Md.tr Md.rf hA4395 rfl) hA4417 rfl)), hV4417, (I4417 33), hF, rfl, rfl⟩ dX11_look_79
          · skip
            replace hF := FE.neg hF c4418
            refine g_iload hk dX11_look_47 rfl ?_
            exact g_iret hk hR rfl ⟨I4417, A4417, (show Md [28, 30, 31, 32, 33, 34] I I4417 from (Md.tr (Md.tr Md.rf hI4395 rfl) hI4417 rfl)), (show Md [21, 22, 23] A A4417 from (Md.tr (Md.tr Md.rf hA4395 rfl) hA4417 rfl)), hV4417, y4414, hF, rfl, rfl⟩ dX11_look_49
        · skip
          replace hF := FE.neg hF c4396
          refine g_iconst (v := (-1)) hk dX11_look_27 (by decide) ?_
          exact g_iret hk hR rfl ⟨I4395, A4395, (show Md [28, 30, 31, 32, 33, 34] I I4395 from (Md.tr Md.rf hI4395 rfl)), (show Md [21, 22, 23] A A4395 from (Md.tr Md.rf hA4395 rfl)), hV4395, (-1), hF, rfl, rfl⟩ dX11_look_28
noncomputable def fX2_cellAt (I : Nat → Int32) (A : Nat → Nat → Int32) (z1 : Int32) (z2 : Int32) : Int32 := if z1.toInt < 0 then 2147483647 else if z2.toInt < 0 then 2147483647 else if (I 30).toInt ≤ z1.toInt then 2147483647 else if (I 30).toInt ≤ z2.toInt then 2147483647 else f_lt (z1 - z2) fun y4449 => if (I 31).toInt < y4449.toInt then 2147483647 else f_lt (z2 - z1) fun y4453 => if (I 31).toInt < y4453.toInt then 2147483647 else f_lt (z1 * (16 : Int32)) fun y4455 => f_lt (y4455 + z2) fun y4456 => (A 23 y4456.toNatClampNeg)
def wo_k250_X2_cellAt : List Cond := [Cond.constant RX2 93 (2147483647), Cond.fieldLink RX2 24 "WarpDesk$Fit" "length" "I", Cond.fieldLink RX2 37 "WarpDesk$Fit" "band" "I", Cond.fieldLink RX2 18 "WarpDesk$Fit" "table" "[I"]
def wz_k250_X2_cellAt : List Cond := .code yX2_cellAt cX2_cellAt 4 (some .int) :: (wo_k250_X2_cellAt ++ (wsX20 ++ ([] : List Cond)))
theorem zg_k250_X2_cellAt : ∀ w ∈ wz_k250_X2_cellAt, goodWord w = true := zg_cons rfl (zg_app (by decide +kernel) (zg_app zgU_wsX20 zg_nil))
theorem zi_k250_X2_cellAt : ∀ w ∈ wz_k250_X2_cellAt, w ∈ lw_tbl := zi_cons zw_1061 (zi_app (zi_cons zw_996 (zi_cons zw_343 (zi_cons zw_344 (zi_cons zw_339 zi_nil)))) (zi_app inX2 zi_nil))
set_option maxHeartbeats 4000000 in
set_option maxRecDepth 100000 in
theorem k250_X2_cellAt (l : Launch) (D : va_G) (zt : Nat × Nat × Nat × (Nat → Nat) × (Nat → Nat)) (q : Nat → Nat) (d : Nat → ClassId) (I : Nat → Int32) (A : Nat → Nat → Int32) (z1 : Int32) (z2 : Int32) (hIv : IvX I A) : GM l D zt (tyX d) yX2_cellAt wz_k250_X2_cellAt ({ frames := 0, cells := 0, slots := 0, locals := 0 } : Room) [.ref (q 38), .int z1, .int z2] (wX q d I A) (fun v _ w' => ∃ y0 : Int32, FE (fX2_cellAt I A z1 z2) y0 ∧ v = some (.int y0) ∧ w' = wX q d I A) 0 0 := by
  refine GM.of (cc := cX2_cellAt) (maxL := 4) (ret := (some .int)) (own := RX2) (lv := [(0, .ref (q 38)), (1, .int z1), (2, .int z2)]) (by decide) rfl rfl (Nat.le_of_ble_eq_true rfl) rfl (fun κ sz hk hR hN => ?_)
  have hin2 : ∀ w ∈ u_ws RX2 TX2 10, w ∈ wz_k250_X2_cellAt := fun w h => (List.mem_cons_of_mem _ (List.mem_append_right _ (List.mem_append_left _ h)))
  have hF : FE (fX2_cellAt I A z1 z2) (fX2_cellAt I A z1 z2) := FE.rf
  refine g_iload_n hk dX2_cellAt_0 rfl ?_
  have b4442l := Int32.le_toInt z1
  have b4442h := Int32.toInt_lt z1
  refine g_if_lt (tgt := 48) (a := z1.toInt) hk dX2_cellAt_1 (by decide) rfl (fun c4443 => ?_) (fun c4443 => ?_)
  · skip
    replace hF := FE.pos hF c4443
    refine g_iconst (v := 0) hk dX2_cellAt_48 (by decide) ?_
    refine g_istore_n (lv' := [(3, .int 0), (0, .ref (q 38)), (1, .int z1), (2, .int z2)]) hk dX2_cellAt_49 (by decide) rfl ?_
    refine g_iload_n hk dX2_cellAt_50 rfl ?_
    refine g_if_eq (tgt := 68) (a := 0) hk dX2_cellAt_51 (by decide) rfl (fun _ => ?_) (fun z9 => absurd (show (0 : Int) = (0 : Int) from by decide) z9)
    refine g_ldc (v := 2147483647) hk (List.mem_cons_of_mem _ (List.mem_append_left _ (List.mem_of_getElem? (i := 0) rfl))) dX2_cellAt_68 ?_
    exact g_iret hk hR rfl ⟨2147483647, hF, rfl, rfl⟩ dX2_cellAt_70
  · skip
    replace hF := FE.neg hF c4443
    refine g_iload_n hk dX2_cellAt_4 rfl ?_
    have b4444l := Int32.le_toInt z2
    have b4444h := Int32.toInt_lt z2
    refine g_if_lt (tgt := 48) (a := z2.toInt) hk dX2_cellAt_5 (by decide) rfl (fun c4445 => ?_) (fun c4445 => ?_)
    · skip
      replace hF := FE.pos hF c4445
      refine g_iconst (v := 0) hk dX2_cellAt_48 (by decide) ?_
      refine g_istore_n (lv' := [(3, .int 0), (0, .ref (q 38)), (1, .int z1), (2, .int z2)]) hk dX2_cellAt_49 (by decide) rfl ?_
      refine g_iload_n hk dX2_cellAt_50 rfl ?_
      refine g_if_eq (tgt := 68) (a := 0) hk dX2_cellAt_51 (by decide) rfl (fun _ => ?_) (fun z9 => absurd (show (0 : Int) = (0 : Int) from by decide) z9)
      refine g_ldc (v := 2147483647) hk (List.mem_cons_of_mem _ (List.mem_append_left _ (List.mem_of_getElem? (i := 0) rfl))) dX2_cellAt_68 ?_
      exact g_iret hk hR rfl ⟨2147483647, hF, rfl, rfl⟩ dX2_cellAt_70
    · skip
      replace hF := FE.neg hF c4445
      refine g_iload_n hk dX2_cellAt_8 rfl ?_
      refine g_aload_n hk dX2_cellAt_9 rfl ?_
      refine gX_i30 (v := (I 30)) hk hin2 (List.mem_cons_of_mem _ (List.mem_append_left _ (List.mem_of_getElem? (i := 1) rfl))) dX2_cellAt_10 rfl ?_
      have f4446 := IvX_f30 hIv
      refine g_icmp_ge (tgt := 48) (a := z1.toInt) (b := (I 30).toInt) hk dX2_cellAt_13 (by decide) rfl rfl (fun c4447 => ?_) (fun c4447 => ?_)
      · skip
        replace hF := FE.pos hF c4447
        refine g_iconst (v := 0) hk dX2_cellAt_48 (by decide) ?_
        refine g_istore_n (lv' := [(3, .int 0), (0, .ref (q 38)), (1, .int z1), (2, .int z2)]) hk dX2_cellAt_49 (by decide) rfl ?_
        refine g_iload_n hk dX2_cellAt_50 rfl ?_
        refine g_if_eq (tgt := 68) (a := 0) hk dX2_cellAt_51 (by decide) rfl (fun _ => ?_) (fun z9 => absurd (show (0 : Int) = (0 : Int) from by decide) z9)
        refine g_ldc (v := 2147483647) hk (List.mem_cons_of_mem _ (List.mem_append_left _ (List.mem_of_getElem? (i := 0) rfl))) dX2_cellAt_68 ?_
        exact g_iret hk hR rfl ⟨2147483647, hF, rfl, rfl⟩ dX2_cellAt_70
      · skip
        replace hF := FE.neg hF c4447
        refine g_iload_n hk dX2_cellAt_16 rfl ?_
        refine g_aload_n hk dX2_cellAt_17 rfl ?_
        refine gX_i30 (v := (I 30)) hk hin2 (List.mem_cons_of_mem _ (List.mem_append_left _ (List.mem_of_getElem? (i := 1) rfl))) dX2_cellAt_18 rfl ?_
        refine g_icmp_ge (tgt := 48) (a := z2.toInt) (b := (I 30).toInt) hk dX2_cellAt_21 (by decide) rfl rfl (fun c4448 => ?_) (fun c4448 => ?_)
        · skip
          replace hF := FE.pos hF c4448
          refine g_iconst (v := 0) hk dX2_cellAt_48 (by decide) ?_
          refine g_istore_n (lv' := [(3, .int 0), (0, .ref (q 38)), (1, .int z1), (2, .int z2)]) hk dX2_cellAt_49 (by decide) rfl ?_
          refine g_iload_n hk dX2_cellAt_50 rfl ?_
          refine g_if_eq (tgt := 68) (a := 0) hk dX2_cellAt_51 (by decide) rfl (fun _ => ?_) (fun z9 => absurd (show (0 : Int) = (0 : Int) from by decide) z9)
          refine g_ldc (v := 2147483647) hk (List.mem_cons_of_mem _ (List.mem_append_left _ (List.mem_of_getElem? (i := 0) rfl))) dX2_cellAt_68 ?_
          exact g_iret hk hR rfl ⟨2147483647, hF, rfl, rfl⟩ dX2_cellAt_70
        · skip
          replace hF := FE.neg hF c4448
          refine g_iload_n hk dX2_cellAt_24 rfl ?_
          refine g_iload_n hk dX2_cellAt_25 rfl ?_
          refine g_isub hk dX2_cellAt_26 ?_
          refine g_topi (fun y4449 ey4449 => ?_)
          replace hF := FE.lt hF ey4449
          have hy4449 : y4449.toInt = z1.toInt - z2.toInt := i32_sub ey4449 rfl rfl (by omega) (by omega)
          refine g_aload_n hk dX2_cellAt_27 rfl ?_
          refine gX_i31 (v := (I 31)) hk hin2 (List.mem_cons_of_mem _ (List.mem_append_left _ (List.mem_of_getElem? (i := 2) rfl))) dX2_cellAt_28 rfl ?_
          have f4450 := IvX_f31 hIv
          have b4451l := Int32.le_toInt (I 31)
          have b4451h := Int32.toInt_lt (I 31)
          refine g_icmp_gt (tgt := 48) (a := y4449.toInt) (b := (I 31).toInt) hk dX2_cellAt_31 (by decide) rfl rfl (fun c4452 => ?_) (fun c4452 => ?_)
          · skip
            replace hF := FE.pos hF c4452
            refine g_iconst (v := 0) hk dX2_cellAt_48 (by decide) ?_
            refine g_istore_n (lv' := [(3, .int 0), (0, .ref (q 38)), (1, .int z1), (2, .int z2)]) hk dX2_cellAt_49 (by decide) rfl ?_
            refine g_iload_n hk dX2_cellAt_50 rfl ?_
            refine g_if_eq (tgt := 68) (a := 0) hk dX2_cellAt_51 (by decide) rfl (fun _ => ?_) (fun z9 => absurd (show (0 : Int) = (0 : Int) from by decide) z9)
            refine g_ldc (v := 2147483647) hk (List.mem_cons_of_mem _ (List.mem_append_left _ (List.mem_of_getElem? (i := 0) rfl))) dX2_cellAt_68 ?_
            exact g_iret hk hR rfl ⟨2147483647, hF, rfl, rfl⟩ dX2_cellAt_70
          · skip
            replace hF := FE.neg hF c4452
            refine g_iload_n hk dX2_cellAt_34 rfl ?_
            refine g_iload_n hk dX2_cellAt_35 rfl ?_
            refine g_isub hk dX2_cellAt_36 ?_
            refine g_topi (fun y4453 ey4453 => ?_)
            replace hF := FE.lt hF ey4453
            have hy4453 : y4453.toInt = z2.toInt - z1.toInt := i32_sub ey4453 rfl rfl (by omega) (by omega)
            refine g_aload_n hk dX2_cellAt_37 rfl ?_
            refine gX_i31 (v := (I 31)) hk hin2 (List.mem_cons_of_mem _ (List.mem_append_left _ (List.mem_of_getElem? (i := 2) rfl))) dX2_cellAt_38 rfl ?_
            refine g_icmp_gt (tgt := 48) (a := y4453.toInt) (b := (I 31).toInt) hk dX2_cellAt_41 (by decide) rfl rfl (fun c4454 => ?_) (fun c4454 => ?_)
            · skip
              replace hF := FE.pos hF c4454
              refine g_iconst (v := 0) hk dX2_cellAt_48 (by decide) ?_
              refine g_istore_n (lv' := [(3, .int 0), (0, .ref (q 38)), (1, .int z1), (2, .int z2)]) hk dX2_cellAt_49 (by decide) rfl ?_
              refine g_iload_n hk dX2_cellAt_50 rfl ?_
              refine g_if_eq (tgt := 68) (a := 0) hk dX2_cellAt_51 (by decide) rfl (fun _ => ?_) (fun z9 => absurd (show (0 : Int) = (0 : Int) from by decide) z9)
              refine g_ldc (v := 2147483647) hk (List.mem_cons_of_mem _ (List.mem_append_left _ (List.mem_of_getElem? (i := 0) rfl))) dX2_cellAt_68 ?_
              exact g_iret hk hR rfl ⟨2147483647, hF, rfl, rfl⟩ dX2_cellAt_70
            · skip
              replace hF := FE.neg hF c4454
              refine g_iconst (v := 1) hk dX2_cellAt_44 (by decide) ?_
              refine g_goto (tgt := 49) hk dX2_cellAt_45 (by decide) ?_
              refine g_istore_n (lv' := [(3, .int 1), (0, .ref (q 38)), (1, .int z1), (2, .int z2)]) hk dX2_cellAt_49 (by decide) rfl ?_
              refine g_iload_n hk dX2_cellAt_50 rfl ?_
              refine g_if_eq (tgt := 68) (a := 1) hk dX2_cellAt_51 (by decide) rfl (fun z9 => absurd z9 (show ¬ ((1 : Int) = (0 : Int)) from by decide)) (fun _ => ?_)
              refine g_aload_n hk dX2_cellAt_54 rfl ?_
              refine gX_r38_2 hk hin2 (List.mem_cons_of_mem _ (List.mem_append_left _ (List.mem_of_getElem? (i := 3) rfl))) dX2_cellAt_55 ?_
              refine g_iload_n hk dX2_cellAt_58 rfl ?_
              refine g_bipush (v := 16) hk dX2_cellAt_59 (by decide) ?_
              refine g_imul hk dX2_cellAt_61 ?_
              refine g_topi (fun y4455 ey4455 => ?_)
              replace hF := FE.lt hF ey4455
              have hy4455 : y4455.toInt = z1.toInt * 16 := i32_mul ey4455 rfl rfl (by omega) (by omega)
              refine g_iload_n hk dX2_cellAt_62 rfl ?_
              refine g_iadd hk dX2_cellAt_63 ?_
              refine g_topi (fun y4456 ey4456 => ?_)
              replace hF := FE.lt hF ey4456
              have hy4456 : y4456.toInt = y4455.toInt + z2.toInt := i32_add ey4456 rfl rfl (by omega) (by omega)
              refine lX_23 (v := (A 23 y4456.toNatClampNeg)) hk (vp_in_iff.mpr ⟨by omega, by omega⟩) rfl dX2_cellAt_64 ?_
              refine g_goto (tgt := 70) hk dX2_cellAt_65 (by decide) ?_
              have b4457l := Int32.le_toInt (A 23 y4456.toNatClampNeg)
              have b4457h := Int32.toInt_lt (A 23 y4456.toNatClampNeg)
              exact g_iret hk hR rfl ⟨(A 23 y4456.toNatClampNeg), hF, rfl, rfl⟩ dX2_cellAt_70
noncomputable def bX2_traceWay_27 : (Int32 → Int32 → Int32 → (Nat → Int32) → (Nat → Nat → Int32) → (Int32 × (Nat → Int32) × (Nat → Nat → Int32))) → Int32 → Int32 → Int32 → (Nat → Int32) → (Nat → Nat → Int32) → (Int32 × (Nat → Int32) × (Nat → Nat → Int32)) := fun kk4582 x4433 x4434 x4435 I4437 A4437 => if 32 ≤ x4433.toInt then (0, I4437, A4437) else if x4435.toInt < 0 then (0, I4437, A4437) else if x4434.toInt < 0 then (0, I4437, A4437) else f_lt ((100 : Int32) * x4435) fun y4587 => f_lt (y4587 + x4434) fun y4588 => f_lt (x4433 + (1 : Int32)) fun y4589 => f_lt (x4435 - (1 : Int32)) fun y4590 => f_lt (x4434 - (1 : Int32)) fun y4591 => f_lt (fX2_cellAt (upd I4437 29 y4589) (up3 A4437 24 (x4433.toNatClampNeg) y4588) y4590 y4591) fun y4592 => f_lt (x4435 - (1 : Int32)) fun y4593 => f_lt (fX2_cellAt (upd I4437 29 y4589) (up3 A4437 24 (x4433.toNatClampNeg) y4588) y4593 x4434) fun y4594 => f_lt (x4434 - (1 : Int32)) fun y4595 => f_lt (fX2_cellAt (upd I4437 29 y4589) (up3 A4437 24 (x4433.toNatClampNeg) y4588) x4435 y4595) fun y4596 => if y4594.toInt < y4592.toInt then if y4596.toInt < y4594.toInt then f_lt (x4434 + Int32.ofInt (-1)) fun y4602 => f_lt (x4433 + Int32.ofInt 1) fun y4603 => kk4582 y4603 y4602 x4435 (upd I4437 29 y4589) (up3 A4437 24 (x4433.toNatClampNeg) y4588) else f_lt (x4435 + Int32.ofInt (-1)) fun y4604 => f_lt (x4433 + Int32.ofInt 1) fun y4605 => kk4582 y4605 x4434 y4604 (upd I4437 29 y4589) (up3 A4437 24 (x4433.toNatClampNeg) y4588) else if y4596.toInt < y4592.toInt then if y4596.toInt < y4594.toInt then f_lt (x4434 + Int32.ofInt (-1)) fun y4609 => f_lt (x4433 + Int32.ofInt 1) fun y4610 => kk4582 y4610 y4609 x4435 (upd I4437 29 y4589) (up3 A4437 24 (x4433.toNatClampNeg) y4588) else f_lt (x4435 + Int32.ofInt (-1)) fun y4611 => f_lt (x4433 + Int32.ofInt 1) fun y4612 => kk4582 y4612 x4434 y4611 (upd I4437 29 y4589) (up3 A4437 24 (x4433.toNatClampNeg) y4588) else f_lt (x4435 + Int32.ofInt (-1)) fun y4613 => f_lt (x4434 + Int32.ofInt (-1)) fun y4614 => f_lt (x4433 + Int32.ofInt 1) fun y4615 => kk4582 y4615 y4614 y4613 (upd I4437 29 y4589) (up3 A4437 24 (x4433.toNatClampNeg) y4588)
noncomputable def fX2_traceWay (I : Nat → Int32) (A : Nat → Nat → Int32) : Int32 × (Nat → Int32) × (Nat → Nat → Int32) := f_bdX (fX2_layTable I A 2147483647) fun _ I4429 A4429 => f_lt ((I 30) - (1 : Int32)) fun y4431 => f_lt ((I 30) - (1 : Int32)) fun y4432 => itr_iiiIA dfX (bX2_traceWay_27) FU 0 y4432 y4431 (upd I4429 29 0) A4429
def wo_k249_X2_traceWay : List Cond := [Cond.constant RX2 93 (2147483647), Cond.methodLink RX2 86 yX2_layTable, Cond.instanceMethod yX2_layTable, Cond.selects RX2 yX2_layTable yX2_layTable, Cond.initialized RX2, Cond.fieldLink RX2 101 "WarpDesk$Fit" "wayLength" "I", Cond.fieldLink RX2 24 "WarpDesk$Fit" "length" "I", Cond.fieldLink RX2 21 "WarpDesk$Fit" "steps" "[I", Cond.methodLink RX2 104 yX2_cellAt, Cond.instanceMethod yX2_cellAt, Cond.selects RX2 yX2_cellAt yX2_cellAt]
def wz_k249_X2_traceWay : List Cond := .code yX2_traceWay cX2_traceWay 7 none :: (wo_k249_X2_traceWay ++ (wsX20 ++ (wz_k233_X2_layTable ++ (wz_k250_X2_cellAt ++ ([] : List Cond)))))
theorem zg_k249_X2_traceWay : ∀ w ∈ wz_k249_X2_traceWay, goodWord w = true := zg_cons rfl (zg_app (by decide +kernel) (zg_app zgU_wsX20 (zg_app zg_k233_X2_layTable (zg_app zg_k250_X2_cellAt zg_nil))))
theorem zi_k249_X2_traceWay : ∀ w ∈ wz_k249_X2_traceWay, w ∈ lw_tbl := zi_cons zw_1057 (zi_app (zi_cons zw_996 (zi_cons zw_997 (zi_cons zw_999 (zi_cons zw_28 (zi_cons zw_112 (zi_cons zw_342 (zi_cons zw_343 (zi_cons zw_340 (zi_cons zw_1058 (zi_cons zw_1060 (zi_cons zw_34 zi_nil))))))))))) (zi_app inX2 (zi_app zi_k233_X2_layTable (zi_app zi_k250_X2_cellAt zi_nil))))
set_option maxHeartbeats 4000000 in
set_option maxRecDepth 100000 in
theorem k249_X2_traceWay (l : Launch) (D : va_G) (zt : Nat × Nat × Nat × (Nat → Nat) × (Nat → Nat)) (q : Nat → Nat) (d : Nat → ClassId) (I : Nat → Int32) (A : Nat → Nat → Int32) (hIv : IvX I A) : GM l D zt (tyX d) yX2_traceWay wz_k249_X2_traceWay ({ frames := 3, cells := 0, slots := 0, locals := 72 } : Room) [.ref (q 38)] (wX q d I A) (fun v _ w' => ∃ (I' : Nat → Int32) (A' : Nat → Nat → Int32), Md [29, 33, 34] I I' ∧ Md [23, 24] A A' ∧ IvX I' A' ∧ FE (fX2_traceWay I A) (0, I', A') ∧ v = none ∧ w' = wX q d I' A') 0 0 := by
  refine GM.of (cc := cX2_traceWay) (maxL := 7) (ret := none) (own := RX2) (lv := [(0, .ref (q 38))]) (by decide) rfl rfl (Nat.le_of_ble_eq_true rfl) rfl (fun κ sz hk hR hN => ?_)
  have hin2 : ∀ w ∈ u_ws RX2 TX2 10, w ∈ wz_k249_X2_traceWay := fun w h => (List.mem_cons_of_mem _ (List.mem_append_right _ (List.mem_append_left _ h)))
  have hF : FE (fX2_traceWay I A) (fX2_traceWay I A) := FE.rf
  refine g_aload_n hk dX2_traceWay_0 rfl ?_
  refine g_ldc (v := 2147483647) hk (List.mem_cons_of_mem _ (List.mem_append_left _ (List.mem_of_getElem? (i := 0) rfl))) dX2_traceWay_1 ?_
  have k4427 : (2147483647 : Int32).toInt = 2147483647 := rfl
  refine g_callV (n := 1) hk (k233_X2_layTable l D zt q d I A 2147483647 hIv) (SP.same _) (fun _ h => h) (gi_V (List.mem_cons_of_mem _ (List.mem_append_left _ (List.mem_of_getElem? (i := 1) rfl))) (List.mem_cons_of_mem _ (List.mem_append_left _ (List.mem_of_getElem? (i := 2) rfl))) (List.mem_cons_of_mem _ (List.mem_append_left _ (List.mem_of_getElem? (i := 3) rfl))) (List.mem_cons_of_mem _ (List.mem_append_left _ (List.mem_of_getElem? (i := 4) rfl))) (gi_sub (fun w h => (List.mem_cons_of_mem _ (List.mem_append_right _ (List.mem_append_right _ (List.mem_append_left _ h))))) zg_k233_X2_layTable)) rfl rfl rfl (by decide +kernel) ⟨Nat.le_of_ble_eq_true rfl, Nat.le_of_ble_eq_true rfl⟩ 38 rfl rfl rfl rfl (Nat.le_of_ble_eq_true rfl) ⟨Nat.le_of_ble_eq_true rfl, Nat.le_of_ble_eq_true rfl⟩ dX2_traceWay_3 (fun v ty' w' hp hk' => ?_)
  obtain ⟨I4429, A4429, hI4429, hA4429, hV4429, hC, rfl, rfl⟩ := hp
  replace hF := FE.bdX hF hC
  show GW κ 7 0 0 (wX q d I4429 A4429) 6 [(0, .ref (q 38))] []
  refine g_aload_n hk dX2_traceWay_6 rfl ?_
  refine g_iconst (v := 0) hk dX2_traceWay_7 (by decide) ?_
  refine pX_i29 hk hin2 (List.mem_cons_of_mem _ (List.mem_append_left _ (List.mem_of_getElem? (i := 5) rfl))) dX2_traceWay_8 ?_
  refine g_aload_n hk dX2_traceWay_11 rfl ?_
  refine gX_i30 (v := (I 30)) hk hin2 (List.mem_cons_of_mem _ (List.mem_append_left _ (List.mem_of_getElem? (i := 6) rfl))) dX2_traceWay_12 (hI4429 30 rfl) ?_
  have f4430 := IvX_f30 hIv
  refine g_iconst (v := 1) hk dX2_traceWay_15 (by decide) ?_
  refine g_isub hk dX2_traceWay_16 ?_
  refine g_topi (fun y4431 ey4431 => ?_)
  replace hF := FE.lt hF ey4431
  have hy4431 : y4431.toInt = (I 30).toInt - 1 := i32_sub ey4431 rfl rfl (by omega) (by omega)
  refine g_istore_n (lv' := [(1, .int y4431), (0, .ref (q 38))]) hk dX2_traceWay_17 (by decide) rfl ?_
  refine g_aload_n hk dX2_traceWay_18 rfl ?_
  refine gX_i30 (v := (I 30)) hk hin2 (List.mem_cons_of_mem _ (List.mem_append_left _ (List.mem_of_getElem? (i := 6) rfl))) dX2_traceWay_19 (hI4429 30 rfl) ?_
  refine g_iconst (v := 1) hk dX2_traceWay_22 (by decide) ?_
  refine g_isub hk dX2_traceWay_23 ?_
  refine g_topi (fun y4432 ey4432 => ?_)
  replace hF := FE.lt hF ey4432
  have hy4432 : y4432.toInt = (I 30).toInt - 1 := i32_sub ey4432 rfl rfl (by omega) (by omega)
  refine g_istore_n (lv' := [(2, .int y4432), (1, .int y4431), (0, .ref (q 38))]) hk dX2_traceWay_24 (by decide) rfl ?_
  refine g_iconst (v := 0) hk dX2_traceWay_25 (by decide) ?_
  refine g_istore_n (lv' := [(3, .int 0), (2, .int y4432), (1, .int y4431), (0, .ref (q 38))]) hk dX2_traceWay_26 (by decide) rfl ?_
  have lp4579 : ∀ (n4580 : Nat) (x4433 : Int32) (x4434 : Int32) (x4435 : Int32) (I4437 : Nat → Int32) (A4437 : Nat → Nat → Int32), (Md [29] (upd I4429 29 0) I4437) → (Md [24] A4429 A4437) → (IvX I4437 A4437) → (0 ≤ x4433.toInt) → (x4433.toInt ≤ 32) → ((-1) ≤ x4434.toInt) → (x4434.toInt ≤ 15) → ((-1) ≤ x4435.toInt) → (x4435.toInt ≤ 15) → (33 - x4433.toInt < (n4580 : Int)) → (0 < n4580) → (FE (fX2_traceWay I A) (itr_iiiIA dfX (bX2_traceWay_27) n4580 x4433 x4434 x4435 I4437 A4437)) → GW κ 7 0 0 (wX q d I4437 A4437) 27 [(3, .int x4433), (2, .int x4434), (1, .int x4435), (0, .ref (q 38))] [] := by
    intro n4580
    induction n4580 with
    | zero =>
      intro x4433 x4434 x4435 I4437 A4437 hI4437 hA4437 hV4437 h4573 h4574 h4575 h4576 h4577 h4578 m4581 m4581z hF
      exact absurd m4581z (Nat.lt_irrefl 0)
    | succ n4580 ih4583 =>
      intro x4433 x4434 x4435 I4437 A4437 hI4437 hA4437 hV4437 h4573 h4574 h4575 h4576 h4577 h4578 m4581 m4581z hF
      replace hF := FE.itr_iiiIA hF
      refine g_iload_n hk dX2_traceWay_27 rfl ?_
      refine g_aload_n hk dX2_traceWay_28 rfl ?_
      refine gX_r38_3 hk hin2 (List.mem_cons_of_mem _ (List.mem_append_left _ (List.mem_of_getElem? (i := 7) rfl))) dX2_traceWay_29 ?_
      refine nX_24 hk dX2_traceWay_32 ?_
      refine g_icmp_ge (tgt := 140) (a := x4433.toInt) (b := 32) hk dX2_traceWay_33 (by decide) rfl rfl (fun c4584 => ?_) (fun c4584 => ?_)
      · skip
        replace hF := FE.pos hF c4584
        exact g_vret hk hR ⟨I4437, A4437, (show Md [29, 33, 34] I I4437 from (Md.tr (Md.up (Md.tr Md.rf hI4429 rfl) rfl) hI4437 rfl)), (show Md [23, 24] A A4437 from (Md.tr (Md.tr Md.rf hA4429 rfl) hA4437 rfl)), hV4437, hF, rfl, rfl⟩ dX2_traceWay_140
      · skip
        replace hF := FE.neg hF c4584
        refine g_iload_n hk dX2_traceWay_36 rfl ?_
        refine g_if_lt (tgt := 140) (a := x4435.toInt) hk dX2_traceWay_37 (by decide) rfl (fun c4585 => ?_) (fun c4585 => ?_)
        · skip
          replace hF := FE.pos hF c4585
          exact g_vret hk hR ⟨I4437, A4437, (show Md [29, 33, 34] I I4437 from (Md.tr (Md.up (Md.tr Md.rf hI4429 rfl) rfl) hI4437 rfl)), (show Md [23, 24] A A4437 from (Md.tr (Md.tr Md.rf hA4429 rfl) hA4437 rfl)), hV4437, hF, rfl, rfl⟩ dX2_traceWay_140
        · skip
          replace hF := FE.neg hF c4585
          refine g_iload_n hk dX2_traceWay_40 rfl ?_
          refine g_if_lt (tgt := 140) (a := x4434.toInt) hk dX2_traceWay_41 (by decide) rfl (fun c4586 => ?_) (fun c4586 => ?_)
          · skip
            replace hF := FE.pos hF c4586
            exact g_vret hk hR ⟨I4437, A4437, (show Md [29, 33, 34] I I4437 from (Md.tr (Md.up (Md.tr Md.rf hI4429 rfl) rfl) hI4437 rfl)), (show Md [23, 24] A A4437 from (Md.tr (Md.tr Md.rf hA4429 rfl) hA4437 rfl)), hV4437, hF, rfl, rfl⟩ dX2_traceWay_140
          · skip
            replace hF := FE.neg hF c4586
            refine g_aload_n hk dX2_traceWay_44 rfl ?_
            refine gX_r38_3 hk hin2 (List.mem_cons_of_mem _ (List.mem_append_left _ (List.mem_of_getElem? (i := 7) rfl))) dX2_traceWay_45 ?_
            refine g_iload_n hk dX2_traceWay_48 rfl ?_
            refine g_bipush (v := 100) hk dX2_traceWay_49 (by decide) ?_
            refine g_iload_n hk dX2_traceWay_51 rfl ?_
            refine g_imul hk dX2_traceWay_52 ?_
            refine g_topi (fun y4587 ey4587 => ?_)
            replace hF := FE.lt hF ey4587
            have hy4587 : y4587.toInt = 100 * x4435.toInt := i32_mul ey4587 rfl rfl (by omega) (by omega)
            refine g_iload_n hk dX2_traceWay_53 rfl ?_
            refine g_iadd hk dX2_traceWay_54 ?_
            refine g_topi (fun y4588 ey4588 => ?_)
            replace hF := FE.lt hF ey4588
            have hy4588 : y4588.toInt = y4587.toInt + x4434.toInt := i32_add ey4588 rfl rfl (by omega) (by omega)
            refine sX_24 (j := x4433.toNatClampNeg) hk (vp_in_iff.mpr ⟨by omega, by omega⟩) rfl dX2_traceWay_55 ?_
            refine g_aload_n hk dX2_traceWay_56 rfl ?_
            refine g_iload_n hk dX2_traceWay_57 rfl ?_
            refine g_iconst (v := 1) hk dX2_traceWay_58 (by decide) ?_
            refine g_iadd hk dX2_traceWay_59 ?_
            refine g_topi (fun y4589 ey4589 => ?_)
            replace hF := FE.lt hF ey4589
            have hy4589 : y4589.toInt = x4433.toInt + 1 := i32_add ey4589 rfl rfl (by omega) (by omega)
            refine pX_i29 hk hin2 (List.mem_cons_of_mem _ (List.mem_append_left _ (List.mem_of_getElem? (i := 5) rfl))) dX2_traceWay_60 ?_
            refine g_aload_n hk dX2_traceWay_63 rfl ?_
            refine g_iload_n hk dX2_traceWay_64 rfl ?_
            refine g_iconst (v := 1) hk dX2_traceWay_65 (by decide) ?_
            refine g_isub hk dX2_traceWay_66 ?_
            refine g_topi (fun y4590 ey4590 => ?_)
            replace hF := FE.lt hF ey4590
            have hy4590 : y4590.toInt = x4435.toInt - 1 := i32_sub ey4590 rfl rfl (by omega) (by omega)
            refine g_iload_n hk dX2_traceWay_67 rfl ?_
            refine g_iconst (v := 1) hk dX2_traceWay_68 (by decide) ?_
            refine g_isub hk dX2_traceWay_69 ?_
            refine g_topi (fun y4591 ey4591 => ?_)
            replace hF := FE.lt hF ey4591
            have hy4591 : y4591.toInt = x4434.toInt - 1 := i32_sub ey4591 rfl rfl (by omega) (by omega)
            refine g_callV (n := 2) hk (k250_X2_cellAt l D zt q d (upd I4437 29 y4589) (up3 A4437 24 (x4433.toNatClampNeg) y4588) y4590 y4591 ⟨(IvX_f0 (I := I4437) (A := A4437) hV4437), (IvX_f18 (I := I4437) (A := A4437) hV4437), (IvX_f30 (I := I4437) (A := A4437) hV4437), (IvX_f31 (I := I4437) (A := A4437) hV4437), (IvX_a4 (I := I4437) (A := A4437) hV4437), (IvX_a9 (I := I4437) (A := A4437) hV4437), trivial⟩) (SP.same _) (fun _ h => h) (gi_V (List.mem_cons_of_mem _ (List.mem_append_left _ (List.mem_of_getElem? (i := 8) rfl))) (List.mem_cons_of_mem _ (List.mem_append_left _ (List.mem_of_getElem? (i := 9) rfl))) (List.mem_cons_of_mem _ (List.mem_append_left _ (List.mem_of_getElem? (i := 10) rfl))) (List.mem_cons_of_mem _ (List.mem_append_left _ (List.mem_of_getElem? (i := 4) rfl))) (gi_sub (fun w h => (List.mem_cons_of_mem _ (List.mem_append_right _ (List.mem_append_right _ (List.mem_append_right _ (List.mem_append_left _ h)))))) zg_k250_X2_cellAt)) rfl rfl rfl (by decide +kernel) ⟨Nat.le_of_ble_eq_true rfl, Nat.le_of_ble_eq_true rfl⟩ 38 rfl rfl rfl rfl (Nat.le_of_ble_eq_true rfl) ⟨Nat.le_of_ble_eq_true rfl, Nat.le_of_ble_eq_true rfl⟩ dX2_traceWay_70 (fun v ty' w' hp hk' => ?_)
            obtain ⟨y4592, hC, rfl, rfl⟩ := hp
            replace hF := FE.lt hF (fe_s hC)
            show GW κ 7 0 0 (wX q d (upd I4437 29 y4589) (up3 A4437 24 (x4433.toNatClampNeg) y4588)) 73 [(3, .int x4433), (2, .int x4434), (1, .int x4435), (0, .ref (q 38))] [.int y4592]
            refine g_istore (lv' := [(4, .int y4592), (3, .int x4433), (2, .int x4434), (1, .int x4435), (0, .ref (q 38))]) hk dX2_traceWay_73 (by decide) rfl ?_
            refine g_aload_n hk dX2_traceWay_75 rfl ?_
            refine g_iload_n hk dX2_traceWay_76 rfl ?_
            refine g_iconst (v := 1) hk dX2_traceWay_77 (by decide) ?_
            refine g_isub hk dX2_traceWay_78 ?_
            refine g_topi (fun y4593 ey4593 => ?_)
            replace hF := FE.lt hF ey4593
            have hy4593 : y4593.toInt = x4435.toInt - 1 := i32_sub ey4593 rfl rfl (by omega) (by omega)
            refine g_iload_n hk dX2_traceWay_79 rfl ?_
            refine g_callV (n := 2) hk (k250_X2_cellAt l D zt q d (upd I4437 29 y4589) (up3 A4437 24 (x4433.toNatClampNeg) y4588) y4593 x4434 ⟨(IvX_f0 (I := I4437) (A := A4437) hV4437), (IvX_f18 (I := I4437) (A := A4437) hV4437), (IvX_f30 (I := I4437) (A := A4437) hV4437), (IvX_f31 (I := I4437) (A := A4437) hV4437), (IvX_a4 (I := I4437) (A := A4437) hV4437), (IvX_a9 (I := I4437) (A := A4437) hV4437), trivial⟩) (SP.same _) (fun _ h => h) (gi_V (List.mem_cons_of_mem _ (List.mem_append_left _ (List.mem_of_getElem? (i := 8) rfl))) (List.mem_cons_of_mem _ (List.mem_append_left _ (List.mem_of_getElem? (i := 9) rfl))) (List.mem_cons_of_mem _ (List.mem_append_left _ (List.mem_of_getElem? (i := 10) rfl))) (List.mem_cons_of_mem _ (List.mem_append_left _ (List.mem_of_getElem? (i := 4) rfl))) (gi_sub (fun w h => (List.mem_cons_of_mem _ (List.mem_append_right _ (List.mem_append_right _ (List.mem_append_right _ (List.mem_append_left _ h)))))) zg_k250_X2_cellAt)) rfl rfl rfl (by decide +kernel) ⟨Nat.le_of_ble_eq_true rfl, Nat.le_of_ble_eq_true rfl⟩ 38 rfl rfl rfl rfl (Nat.le_of_ble_eq_true rfl) ⟨Nat.le_of_ble_eq_true rfl, Nat.le_of_ble_eq_true rfl⟩ dX2_traceWay_80 (fun v ty' w' hp hk' => ?_)
            obtain ⟨y4594, hC, rfl, rfl⟩ := hp
            replace hF := FE.lt hF (fe_s hC)
            show GW κ 7 0 0 (wX q d (upd I4437 29 y4589) (up3 A4437 24 (x4433.toNatClampNeg) y4588)) 83 [(4, .int y4592), (3, .int x4433), (2, .int x4434), (1, .int x4435), (0, .ref (q 38))] [.int y4594]
            refine g_istore (lv' := [(5, .int y4594), (4, .int y4592), (3, .int x4433), (2, .int x4434), (1, .int x4435), (0, .ref (q 38))]) hk dX2_traceWay_83 (by decide) rfl ?_
            refine g_aload_n hk dX2_traceWay_85 rfl ?_
            refine g_iload_n hk dX2_traceWay_86 rfl ?_
            refine g_iload_n hk dX2_traceWay_87 rfl ?_
            refine g_iconst (v := 1) hk dX2_traceWay_88 (by decide) ?_
            refine g_isub hk dX2_traceWay_89 ?_
            refine g_topi (fun y4595 ey4595 => ?_)
            replace hF := FE.lt hF ey4595
            have hy4595 : y4595.toInt = x4434.toInt - 1 := i32_sub ey4595 rfl rfl (by omega) (by omega)
            refine g_callV (n := 2) hk (k250_X2_cellAt l D zt q d (upd I4437 29 y4589) (up3 A4437 24 (x4433.toNatClampNeg) y4588) x4435 y4595 ⟨(IvX_f0 (I := I4437) (A := A4437) hV4437), (IvX_f18 (I := I4437) (A := A4437) hV4437), (IvX_f30 (I := I4437) (A := A4437) hV4437), (IvX_f31 (I := I4437) (A := A4437) hV4437), (IvX_a4 (I := I4437) (A := A4437) hV4437), (IvX_a9 (I := I4437) (A := A4437) hV4437), trivial⟩) (SP.same _) (fun _ h => h) (gi_V (List.mem_cons_of_mem _ (List.mem_append_left _ (List.mem_of_getElem? (i := 8) rfl))) (List.mem_cons_of_mem _ (List.mem_append_left _ (List.mem_of_getElem? (i := 9) rfl))) (List.mem_cons_of_mem _ (List.mem_append_left _ (List.mem_of_getElem? (i := 10) rfl))) (List.mem_cons_of_mem _ (List.mem_append_left _ (List.mem_of_getElem? (i := 4) rfl))) (gi_sub (fun w h => (List.mem_cons_of_mem _ (List.mem_append_right _ (List.mem_append_right _ (List.mem_append_right _ (List.mem_append_left _ h)))))) zg_k250_X2_cellAt)) rfl rfl rfl (by decide +kernel) ⟨Nat.le_of_ble_eq_true rfl, Nat.le_of_ble_eq_true rfl⟩ 38 rfl rfl rfl rfl (Nat.le_of_ble_eq_true rfl) ⟨Nat.le_of_ble_eq_true rfl, Nat.le_of_ble_eq_true rfl⟩ dX2_traceWay_90 (fun v ty' w' hp hk' => ?_)
            obtain ⟨y4596, hC, rfl, rfl⟩ := hp
            replace hF := FE.lt hF (fe_s hC)
            show GW κ 7 0 0 (wX q d (upd I4437 29 y4589) (up3 A4437 24 (x4433.toNatClampNeg) y4588)) 93 [(5, .int y4594), (4, .int y4592), (3, .int x4433), (2, .int x4434), (1, .int x4435), (0, .ref (q 38))] [.int y4596]
            refine g_istore (lv' := [(6, .int y4596), (5, .int y4594), (4, .int y4592), (3, .int x4433), (2, .int x4434), (1, .int x4435), (0, .ref (q 38))]) hk dX2_traceWay_93 (by decide) rfl ?_
            refine g_iload hk dX2_traceWay_95 rfl ?_
            refine g_iload hk dX2_traceWay_97 rfl ?_
            have b4597l := Int32.le_toInt y4592
            have b4597h := Int32.toInt_lt y4592
            have b4598l := Int32.le_toInt y4594
            have b4598h := Int32.toInt_lt y4594
            refine g_icmp_gt (tgt := 118) (a := y4592.toInt) (b := y4594.toInt) hk dX2_traceWay_99 (by decide) rfl rfl (fun c4599 => ?_) (fun c4599 => ?_)
            · skip
              replace hF := FE.pos hF c4599
              refine g_iload hk dX2_traceWay_118 rfl ?_
              refine g_iload hk dX2_traceWay_120 rfl ?_
              have b4600l := Int32.le_toInt y4596
              have b4600h := Int32.toInt_lt y4596
              refine g_icmp_gt (tgt := 131) (a := y4594.toInt) (b := y4596.toInt) hk dX2_traceWay_122 (by decide) rfl rfl (fun c4601 => ?_) (fun c4601 => ?_)
              · skip
                replace hF := FE.pos hF c4601
                obtain ⟨y4602, ey4602⟩ : ∃ y : Int32, y = x4434 + Int32.ofInt (-1) := ⟨_, rfl⟩
                replace hF := FE.lt hF ey4602
                have hy4602 : y4602.toInt = x4434.toInt + (-1) := i32_add ey4602 rfl (by decide) (by omega) (by omega)
                refine g_iinc (v := y4602) (lv' := [(2, .int y4602), (6, .int y4596), (5, .int y4594), (4, .int y4592), (3, .int x4433), (1, .int x4435), (0, .ref (q 38))]) hk 4 dX2_traceWay_131 rfl ey4602.symm (by decide) rfl ?_
                obtain ⟨y4603, ey4603⟩ : ∃ y : Int32, y = x4433 + Int32.ofInt 1 := ⟨_, rfl⟩
                replace hF := FE.lt hF ey4603
                have hy4603 : y4603.toInt = x4433.toInt + 1 := i32_add ey4603 rfl (by decide) (by omega) (by omega)
                refine g_iinc (v := y4603) (lv' := [(3, .int y4603), (2, .int y4602), (6, .int y4596), (5, .int y4594), (4, .int y4592), (1, .int x4435), (0, .ref (q 38))]) hk 4 dX2_traceWay_134 rfl ey4603.symm (by decide) rfl ?_
                refine g_goto (tgt := 27) hk dX2_traceWay_137 (by decide) ?_
                exact g_lv (List.forall_mem_cons.mpr ⟨List.mem_of_getElem? (i := 0) rfl, (List.forall_mem_cons.mpr ⟨List.mem_of_getElem? (i := 1) rfl, (List.forall_mem_cons.mpr ⟨List.mem_of_getElem? (i := 5) rfl, (List.forall_mem_cons.mpr ⟨List.mem_of_getElem? (i := 6) rfl, (fun _ h => absurd h List.not_mem_nil)⟩)⟩)⟩)⟩) (ih4583 y4603 y4602 x4435 (upd I4437 29 y4589) (up3 A4437 24 (x4433.toNatClampNeg) y4588) (show Md [29] (upd I4429 29 0) (upd I4437 29 y4589) from Md.tr hI4437 (show Md [29] I4437 (upd I4437 29 y4589) from (Md.up Md.rf rfl)) rfl) (show Md [24] A4429 (up3 A4437 24 (x4433.toNatClampNeg) y4588) from Md.tr hA4437 (show Md [24] A4437 (up3 A4437 24 (x4433.toNatClampNeg) y4588) from (Md.up3 Md.rf rfl)) rfl) ⟨(IvX_f0 (I := I4437) (A := A4437) hV4437), (IvX_f18 (I := I4437) (A := A4437) hV4437), (IvX_f30 (I := I4437) (A := A4437) hV4437), (IvX_f31 (I := I4437) (A := A4437) hV4437), (IvX_a4 (I := I4437) (A := A4437) hV4437), (IvX_a9 (I := I4437) (A := A4437) hV4437), trivial⟩ (by omega) (by omega) (by omega) (by omega) (by omega) (by omega) (by omega) (by omega) hF)
              · skip
                replace hF := FE.neg hF c4601
                obtain ⟨y4604, ey4604⟩ : ∃ y : Int32, y = x4435 + Int32.ofInt (-1) := ⟨_, rfl⟩
                replace hF := FE.lt hF ey4604
                have hy4604 : y4604.toInt = x4435.toInt + (-1) := i32_add ey4604 rfl (by decide) (by omega) (by omega)
                refine g_iinc (v := y4604) (lv' := [(1, .int y4604), (6, .int y4596), (5, .int y4594), (4, .int y4592), (3, .int x4433), (2, .int x4434), (0, .ref (q 38))]) hk 5 dX2_traceWay_125 rfl ey4604.symm (by decide) rfl ?_
                refine g_goto (tgt := 134) hk dX2_traceWay_128 (by decide) ?_
                obtain ⟨y4605, ey4605⟩ : ∃ y : Int32, y = x4433 + Int32.ofInt 1 := ⟨_, rfl⟩
                replace hF := FE.lt hF ey4605
                have hy4605 : y4605.toInt = x4433.toInt + 1 := i32_add ey4605 rfl (by decide) (by omega) (by omega)
                refine g_iinc (v := y4605) (lv' := [(3, .int y4605), (1, .int y4604), (6, .int y4596), (5, .int y4594), (4, .int y4592), (2, .int x4434), (0, .ref (q 38))]) hk 4 dX2_traceWay_134 rfl ey4605.symm (by decide) rfl ?_
                refine g_goto (tgt := 27) hk dX2_traceWay_137 (by decide) ?_
                exact g_lv (List.forall_mem_cons.mpr ⟨List.mem_of_getElem? (i := 0) rfl, (List.forall_mem_cons.mpr ⟨List.mem_of_getElem? (i := 5) rfl, (List.forall_mem_cons.mpr ⟨List.mem_of_getElem? (i := 1) rfl, (List.forall_mem_cons.mpr ⟨List.mem_of_getElem? (i := 6) rfl, (fun _ h => absurd h List.not_mem_nil)⟩)⟩)⟩)⟩) (ih4583 y4605 x4434 y4604 (upd I4437 29 y4589) (up3 A4437 24 (x4433.toNatClampNeg) y4588) (show Md [29] (upd I4429 29 0) (upd I4437 29 y4589) from Md.tr hI4437 (show Md [29] I4437 (upd I4437 29 y4589) from (Md.up Md.rf rfl)) rfl) (show Md [24] A4429 (up3 A4437 24 (x4433.toNatClampNeg) y4588) from Md.tr hA4437 (show Md [24] A4437 (up3 A4437 24 (x4433.toNatClampNeg) y4588) from (Md.up3 Md.rf rfl)) rfl) ⟨(IvX_f0 (I := I4437) (A := A4437) hV4437), (IvX_f18 (I := I4437) (A := A4437) hV4437), (IvX_f30 (I := I4437) (A := A4437) hV4437), (IvX_f31 (I := I4437) (A := A4437) hV4437), (IvX_a4 (I := I4437) (A := A4437) hV4437), (IvX_a9 (I := I4437) (A := A4437) hV4437), trivial⟩ (by omega) (by omega) (by omega) (by omega) (by omega) (by omega) (by omega) (by omega) hF)
            · skip
              replace hF := FE.neg hF c4599
              refine g_iload hk dX2_traceWay_102 rfl ?_
              refine g_iload hk dX2_traceWay_104 rfl ?_
              have b4606l := Int32.le_toInt y4596
              have b4606h := Int32.toInt_lt y4596
              refine g_icmp_gt (tgt := 118) (a := y4592.toInt) (b := y4596.toInt) hk dX2_traceWay_106 (by decide) rfl rfl (fun c4607 => ?_) (fun c4607 => ?_)
              · skip
                replace hF := FE.pos hF c4607
                refine g_iload hk dX2_traceWay_118 rfl ?_
                refine g_iload hk dX2_traceWay_120 rfl ?_
                refine g_icmp_gt (tgt := 131) (a := y4594.toInt) (b := y4596.toInt) hk dX2_traceWay_122 (by decide) rfl rfl (fun c4608 => ?_) (fun c4608 => ?_)
                · skip
                  replace hF := FE.pos hF c4608
                  obtain ⟨y4609, ey4609⟩ : ∃ y : Int32, y = x4434 + Int32.ofInt (-1) := ⟨_, rfl⟩
                  replace hF := FE.lt hF ey4609
                  have hy4609 : y4609.toInt = x4434.toInt + (-1) := i32_add ey4609 rfl (by decide) (by omega) (by omega)
                  refine g_iinc (v := y4609) (lv' := [(2, .int y4609), (6, .int y4596), (5, .int y4594), (4, .int y4592), (3, .int x4433), (1, .int x4435), (0, .ref (q 38))]) hk 4 dX2_traceWay_131 rfl ey4609.symm (by decide) rfl ?_
                  obtain ⟨y4610, ey4610⟩ : ∃ y : Int32, y = x4433 + Int32.ofInt 1 := ⟨_, rfl⟩
                  replace hF := FE.lt hF ey4610
                  have hy4610 : y4610.toInt = x4433.toInt + 1 := i32_add ey4610 rfl (by decide) (by omega) (by omega)
                  refine g_iinc (v := y4610) (lv' := [(3, .int y4610), (2, .int y4609), (6, .int y4596), (5, .int y4594), (4, .int y4592), (1, .int x4435), (0, .ref (q 38))]) hk 4 dX2_traceWay_134 rfl ey4610.symm (by decide) rfl ?_
                  refine g_goto (tgt := 27) hk dX2_traceWay_137 (by decide) ?_
                  exact g_lv (List.forall_mem_cons.mpr ⟨List.mem_of_getElem? (i := 0) rfl, (List.forall_mem_cons.mpr ⟨List.mem_of_getElem? (i := 1) rfl, (List.forall_mem_cons.mpr ⟨List.mem_of_getElem? (i := 5) rfl, (List.forall_mem_cons.mpr ⟨List.mem_of_getElem? (i := 6) rfl, (fun _ h => absurd h List.not_mem_nil)⟩)⟩)⟩)⟩) (ih4583 y4610 y4609 x4435 (upd I4437 29 y4589) (up3 A4437 24 (x4433.toNatClampNeg) y4588) (show Md [29] (upd I4429 29 0) (upd I4437 29 y4589) from Md.tr hI4437 (show Md [29] I4437 (upd I4437 29 y4589) from (Md.up Md.rf rfl)) rfl) (show Md [24] A4429 (up3 A4437 24 (x4433.toNatClampNeg) y4588) from Md.tr hA4437 (show Md [24] A4437 (up3 A4437 24 (x4433.toNatClampNeg) y4588) from (Md.up3 Md.rf rfl)) rfl) ⟨(IvX_f0 (I := I4437) (A := A4437) hV4437), (IvX_f18 (I := I4437) (A := A4437) hV4437), (IvX_f30 (I := I4437) (A := A4437) hV4437), (IvX_f31 (I := I4437) (A := A4437) hV4437), (IvX_a4 (I := I4437) (A := A4437) hV4437), (IvX_a9 (I := I4437) (A := A4437) hV4437), trivial⟩ (by omega) (by omega) (by omega) (by omega) (by omega) (by omega) (by omega) (by omega) hF)
                · skip
                  replace hF := FE.neg hF c4608
                  obtain ⟨y4611, ey4611⟩ : ∃ y : Int32, y = x4435 + Int32.ofInt (-1) := ⟨_, rfl⟩
                  replace hF := FE.lt hF ey4611
                  have hy4611 : y4611.toInt = x4435.toInt + (-1) := i32_add ey4611 rfl (by decide) (by omega) (by omega)
                  refine g_iinc (v := y4611) (lv' := [(1, .int y4611), (6, .int y4596), (5, .int y4594), (4, .int y4592), (3, .int x4433), (2, .int x4434), (0, .ref (q 38))]) hk 5 dX2_traceWay_125 rfl ey4611.symm (by decide) rfl ?_
                  refine g_goto (tgt := 134) hk dX2_traceWay_128 (by decide) ?_
                  obtain ⟨y4612, ey4612⟩ : ∃ y : Int32, y = x4433 + Int32.ofInt 1 := ⟨_, rfl⟩
                  replace hF := FE.lt hF ey4612
                  have hy4612 : y4612.toInt = x4433.toInt + 1 := i32_add ey4612 rfl (by decide) (by omega) (by omega)
                  refine g_iinc (v := y4612) (lv' := [(3, .int y4612), (1, .int y4611), (6, .int y4596), (5, .int y4594), (4, .int y4592), (2, .int x4434), (0, .ref (q 38))]) hk 4 dX2_traceWay_134 rfl ey4612.symm (by decide) rfl ?_
                  refine g_goto (tgt := 27) hk dX2_traceWay_137 (by decide) ?_
                  exact g_lv (List.forall_mem_cons.mpr ⟨List.mem_of_getElem? (i := 0) rfl, (List.forall_mem_cons.mpr ⟨List.mem_of_getElem? (i := 5) rfl, (List.forall_mem_cons.mpr ⟨List.mem_of_getElem? (i := 1) rfl, (List.forall_mem_cons.mpr ⟨List.mem_of_getElem? (i := 6) rfl, (fun _ h => absurd h List.not_mem_nil)⟩)⟩)⟩)⟩) (ih4583 y4612 x4434 y4611 (upd I4437 29 y4589) (up3 A4437 24 (x4433.toNatClampNeg) y4588) (show Md [29] (upd I4429 29 0) (upd I4437 29 y4589) from Md.tr hI4437 (show Md [29] I4437 (upd I4437 29 y4589) from (Md.up Md.rf rfl)) rfl) (show Md [24] A4429 (up3 A4437 24 (x4433.toNatClampNeg) y4588) from Md.tr hA4437 (show Md [24] A4437 (up3 A4437 24 (x4433.toNatClampNeg) y4588) from (Md.up3 Md.rf rfl)) rfl) ⟨(IvX_f0 (I := I4437) (A := A4437) hV4437), (IvX_f18 (I := I4437) (A := A4437) hV4437), (IvX_f30 (I := I4437) (A := A4437) hV4437), (IvX_f31 (I := I4437) (A := A4437) hV4437), (IvX_a4 (I := I4437) (A := A4437) hV4437), (IvX_a9 (I := I4437) (A := A4437) hV4437), trivial⟩ (by omega) (by omega) (by omega) (by omega) (by omega) (by omega) (by omega) (by omega) hF)
              · skip
                replace hF := FE.neg hF c4607
                obtain ⟨y4613, ey4613⟩ : ∃ y : Int32, y = x4435 + Int32.ofInt (-1) := ⟨_, rfl⟩
                replace hF := FE.lt hF ey4613
                have hy4613 : y4613.toInt = x4435.toInt + (-1) := i32_add ey4613 rfl (by decide) (by omega) (by omega)
                refine g_iinc (v := y4613) (lv' := [(1, .int y4613), (6, .int y4596), (5, .int y4594), (4, .int y4592), (3, .int x4433), (2, .int x4434), (0, .ref (q 38))]) hk 5 dX2_traceWay_109 rfl ey4613.symm (by decide) rfl ?_
                obtain ⟨y4614, ey4614⟩ : ∃ y : Int32, y = x4434 + Int32.ofInt (-1) := ⟨_, rfl⟩
                replace hF := FE.lt hF ey4614
                have hy4614 : y4614.toInt = x4434.toInt + (-1) := i32_add ey4614 rfl (by decide) (by omega) (by omega)
                refine g_iinc (v := y4614) (lv' := [(2, .int y4614), (1, .int y4613), (6, .int y4596), (5, .int y4594), (4, .int y4592), (3, .int x4433), (0, .ref (q 38))]) hk 5 dX2_traceWay_112 rfl ey4614.symm (by decide) rfl ?_
                refine g_goto (tgt := 134) hk dX2_traceWay_115 (by decide) ?_
                obtain ⟨y4615, ey4615⟩ : ∃ y : Int32, y = x4433 + Int32.ofInt 1 := ⟨_, rfl⟩
                replace hF := FE.lt hF ey4615
                have hy4615 : y4615.toInt = x4433.toInt + 1 := i32_add ey4615 rfl (by decide) (by omega) (by omega)
                refine g_iinc (v := y4615) (lv' := [(3, .int y4615), (2, .int y4614), (1, .int y4613), (6, .int y4596), (5, .int y4594), (4, .int y4592), (0, .ref (q 38))]) hk 5 dX2_traceWay_134 rfl ey4615.symm (by decide) rfl ?_
                refine g_goto (tgt := 27) hk dX2_traceWay_137 (by decide) ?_
                exact g_lv (List.forall_mem_cons.mpr ⟨List.mem_of_getElem? (i := 0) rfl, (List.forall_mem_cons.mpr ⟨List.mem_of_getElem? (i := 1) rfl, (List.forall_mem_cons.mpr ⟨List.mem_of_getElem? (i := 2) rfl, (List.forall_mem_cons.mpr ⟨List.mem_of_getElem? (i := 6) rfl, (fun _ h => absurd h List.not_mem_nil)⟩)⟩)⟩)⟩) (ih4583 y4615 y4614 y4613 (upd I4437 29 y4589) (up3 A4437 24 (x4433.toNatClampNeg) y4588) (show Md [29] (upd I4429 29 0) (upd I4437 29 y4589) from Md.tr hI4437 (show Md [29] I4437 (upd I4437 29 y4589) from (Md.up Md.rf rfl)) rfl) (show Md [24] A4429 (up3 A4437 24 (x4433.toNatClampNeg) y4588) from Md.tr hA4437 (show Md [24] A4437 (up3 A4437 24 (x4433.toNatClampNeg) y4588) from (Md.up3 Md.rf rfl)) rfl) ⟨(IvX_f0 (I := I4437) (A := A4437) hV4437), (IvX_f18 (I := I4437) (A := A4437) hV4437), (IvX_f30 (I := I4437) (A := A4437) hV4437), (IvX_f31 (I := I4437) (A := A4437) hV4437), (IvX_a4 (I := I4437) (A := A4437) hV4437), (IvX_a9 (I := I4437) (A := A4437) hV4437), trivial⟩ (by omega) (by omega) (by omega) (by omega) (by omega) (by omega) (by omega) (by omega) hF)
  have k4617 : (0 : Int32).toInt = 0 := rfl
  have n4616a : 33 - 0 < (FU : Int) := by have := FU_eq; omega
  have n4616b : 0 < FU := by have := FU_eq; omega
  exact lp4579 FU 0 y4432 y4431 (upd I4429 29 0) A4429 Md.rf Md.rf ⟨(IvX_f0 (I := I4429) (A := A4429) hV4429), (IvX_f18 (I := I4429) (A := A4429) hV4429), (IvX_f30 (I := I4429) (A := A4429) hV4429), (IvX_f31 (I := I4429) (A := A4429) hV4429), (IvX_a4 (I := I4429) (A := A4429) hV4429), (IvX_a9 (I := I4429) (A := A4429) hV4429), trivial⟩ (by omega) (by omega) (by omega) (by omega) (by omega) (by omega) n4616a n4616b hF
noncomputable def fX2_wayPlace (I : Nat → Int32) (A : Nat → Nat → Int32) (z1 : Int32) : Int32 := f_lt ((I 29) - (1 : Int32)) fun y4623 => f_lt (y4623 - z1) fun y4626 => if z1.toInt < 0 then (-1) else if y4626.toInt < 0 then (-1) else if 32 ≤ y4626.toInt then (-1) else (A 24 y4626.toNatClampNeg)
def wo_k251_X2_wayPlace : List Cond := [Cond.fieldLink RX2 101 "WarpDesk$Fit" "wayLength" "I", Cond.fieldLink RX2 21 "WarpDesk$Fit" "steps" "[I"]
def wz_k251_X2_wayPlace : List Cond := .code yX2_wayPlace cX2_wayPlace 3 (some .int) :: (wo_k251_X2_wayPlace ++ (wsX20 ++ ([] : List Cond)))
theorem zg_k251_X2_wayPlace : ∀ w ∈ wz_k251_X2_wayPlace, goodWord w = true := zg_cons rfl (zg_app (by decide +kernel) (zg_app zgU_wsX20 zg_nil))
theorem zi_k251_X2_wayPlace : ∀ w ∈ wz_k251_X2_wayPlace, w ∈ lw_tbl := zi_cons zw_1065 (zi_app (zi_cons zw_342 (zi_cons zw_340 zi_nil)) (zi_app inX2 zi_nil))
set_option maxHeartbeats 4000000 in
set_option maxRecDepth 100000 in
theorem k251_X2_wayPlace (l : Launch) (D : va_G) (zt : Nat × Nat × Nat × (Nat → Nat) × (Nat → Nat)) (q : Nat → Nat) (d : Nat → ClassId) (I : Nat → Int32) (A : Nat → Nat → Int32) (z1 : Int32) (hIv : IvX I A) : GM l D zt (tyX d) yX2_wayPlace wz_k251_X2_wayPlace ({ frames := 0, cells := 0, slots := 0, locals := 0 } : Room) [.ref (q 38), .int z1] (wX q d I A) (fun v _ w' => ∃ y0 : Int32, FE (fX2_wayPlace I A z1) y0 ∧ v = some (.int y0) ∧ w' = wX q d I A) 0 0 := by
  refine GM.of (cc := cX2_wayPlace) (maxL := 3) (ret := (some .int)) (own := RX2) (lv := [(0, .ref (q 38)), (1, .int z1)]) (by decide) rfl rfl (Nat.le_of_ble_eq_true rfl) rfl (fun κ sz hk hR hN => ?_)
  have hin2 : ∀ w ∈ u_ws RX2 TX2 10, w ∈ wz_k251_X2_wayPlace := fun w h => (List.mem_cons_of_mem _ (List.mem_append_right _ (List.mem_append_left _ h)))
  have hF : FE (fX2_wayPlace I A z1) (fX2_wayPlace I A z1) := FE.rf
  refine g_aload_n hk dX2_wayPlace_0 rfl ?_
  refine gX_i29 (v := (I 29)) hk hin2 (List.mem_cons_of_mem _ (List.mem_append_left _ (List.mem_of_getElem? (i := 0) rfl))) dX2_wayPlace_1 rfl ?_
  refine g_iconst (v := 1) hk dX2_wayPlace_4 (by decide) ?_
  have b4622l := Int32.le_toInt (I 29)
  have b4622h := Int32.toInt_lt (I 29)
  refine g_isub hk dX2_wayPlace_5 ?_
  refine g_topi (fun y4623 ey4623 => ?_)
  replace hF := FE.lt hF ey4623
  have hy4623 := i32_sub0 ey4623
  refine g_iload_n hk dX2_wayPlace_6 rfl ?_
  have b4624l := Int32.le_toInt y4623
  have b4624h := Int32.toInt_lt y4623
  have b4625l := Int32.le_toInt z1
  have b4625h := Int32.toInt_lt z1
  refine g_isub hk dX2_wayPlace_7 ?_
  refine g_topi (fun y4626 ey4626 => ?_)
  replace hF := FE.lt hF ey4626
  have hy4626 := i32_sub0 ey4626
  refine g_istore_n (lv' := [(2, .int y4626), (0, .ref (q 38)), (1, .int z1)]) hk dX2_wayPlace_8 (by decide) rfl ?_
  refine g_iload_n hk dX2_wayPlace_9 rfl ?_
  refine g_if_lt (tgt := 35) (a := z1.toInt) hk dX2_wayPlace_10 (by decide) rfl (fun c4627 => ?_) (fun c4627 => ?_)
  · skip
    replace hF := FE.pos hF c4627
    refine g_iconst (v := (-1)) hk dX2_wayPlace_35 (by decide) ?_
    exact g_iret hk hR rfl ⟨(-1), hF, rfl, rfl⟩ dX2_wayPlace_36
  · skip
    replace hF := FE.neg hF c4627
    refine g_iload_n hk dX2_wayPlace_13 rfl ?_
    have b4628l := Int32.le_toInt y4626
    have b4628h := Int32.toInt_lt y4626
    refine g_if_lt (tgt := 35) (a := y4626.toInt) hk dX2_wayPlace_14 (by decide) rfl (fun c4629 => ?_) (fun c4629 => ?_)
    · skip
      replace hF := FE.pos hF c4629
      refine g_iconst (v := (-1)) hk dX2_wayPlace_35 (by decide) ?_
      exact g_iret hk hR rfl ⟨(-1), hF, rfl, rfl⟩ dX2_wayPlace_36
    · skip
      replace hF := FE.neg hF c4629
      refine g_iload_n hk dX2_wayPlace_17 rfl ?_
      refine g_aload_n hk dX2_wayPlace_18 rfl ?_
      refine gX_r38_3 hk hin2 (List.mem_cons_of_mem _ (List.mem_append_left _ (List.mem_of_getElem? (i := 1) rfl))) dX2_wayPlace_19 ?_
      refine nX_24 hk dX2_wayPlace_22 ?_
      refine g_icmp_ge (tgt := 35) (a := y4626.toInt) (b := 32) hk dX2_wayPlace_23 (by decide) rfl rfl (fun c4630 => ?_) (fun c4630 => ?_)
      · skip
        replace hF := FE.pos hF c4630
        refine g_iconst (v := (-1)) hk dX2_wayPlace_35 (by decide) ?_
        exact g_iret hk hR rfl ⟨(-1), hF, rfl, rfl⟩ dX2_wayPlace_36
      · skip
        replace hF := FE.neg hF c4630
        refine g_aload_n hk dX2_wayPlace_26 rfl ?_
        refine gX_r38_3 hk hin2 (List.mem_cons_of_mem _ (List.mem_append_left _ (List.mem_of_getElem? (i := 1) rfl))) dX2_wayPlace_27 ?_
        refine g_iload_n hk dX2_wayPlace_30 rfl ?_
        refine lX_24 (v := (A 24 y4626.toNatClampNeg)) hk (vp_in_iff.mpr ⟨by omega, by omega⟩) rfl dX2_wayPlace_31 ?_
        refine g_goto (tgt := 36) hk dX2_wayPlace_32 (by decide) ?_
        have b4631l := Int32.le_toInt (A 24 y4626.toNatClampNeg)
        have b4631h := Int32.toInt_lt (A 24 y4626.toNatClampNeg)
        exact g_iret hk hR rfl ⟨(A 24 y4626.toNatClampNeg), hF, rfl, rfl⟩ dX2_wayPlace_36
noncomputable def fX11_way (I : Nat → Int32) (A : Nat → Nat → Int32) (z1 : Int32) (z2 : Int32) (z3 : Int32) : Int32 × (Nat → Int32) × (Nat → Nat → Int32) := f_bdX (fX0_openBoth I A z1 z2) fun y4422 I4425 A4425 => if y4422.toInt ≠ 0 then f_bdX (fX2_traceWay I4425 A4425) fun _ I4619 A4619 => if z3.toInt ≠ (-1) then f_lt (fX2_wayPlace I4619 A4619 z3) fun y4632 => (y4632, I4619, A4619) else ((I4619 29), I4619, A4619) else ((-1), I4425, A4425)
def wo_k248_X11_way : List Cond := [Cond.fieldLink RX11 65 "WarpDesk" "bench" "LWarpDesk$Bench;", Cond.methodLink RX11 212 yX0_openBoth, Cond.instanceMethod yX0_openBoth, Cond.selects RX0 yX0_openBoth yX0_openBoth, Cond.initialized RX0, Cond.fieldLink RX11 202 "WarpDesk$Bench" "fit" "LWarpDesk$Fit;", Cond.methodLink RX11 236 yX2_traceWay, Cond.instanceMethod yX2_traceWay, Cond.selects RX2 yX2_traceWay yX2_traceWay, Cond.initialized RX2, Cond.methodLink RX11 242 yX2_wayPlace, Cond.instanceMethod yX2_wayPlace, Cond.selects RX2 yX2_wayPlace yX2_wayPlace, Cond.fieldLink RX11 239 "WarpDesk$Fit" "wayLength" "I"]
def wz_k248_X11_way : List Cond := .code yX11_way cX11_way 4 (some .int) :: (wo_k248_X11_way ++ (wsX00 ++ (wsX20 ++ (wsX110 ++ (wz_k222_X0_openBoth ++ (wz_k249_X2_traceWay ++ (wz_k251_X2_wayPlace ++ ([] : List Cond))))))))
theorem zg_k248_X11_way : ∀ w ∈ wz_k248_X11_way, goodWord w = true := zg_cons rfl (zg_app (by decide +kernel) (zg_app zgU_wsX00 (zg_app zgU_wsX20 (zg_app zgU_wsX110 (zg_app zg_k222_X0_openBoth (zg_app zg_k249_X2_traceWay (zg_app zg_k251_X2_wayPlace zg_nil)))))))
theorem zi_k248_X11_way : ∀ w ∈ wz_k248_X11_way, w ∈ lw_tbl := zi_cons zw_1053 (zi_app (zi_cons zw_494 (zi_cons zw_969 (zi_cons zw_970 (zi_cons zw_971 (zi_cons zw_111 (zi_cons zw_383 (zi_cons zw_1054 (zi_cons zw_1055 (zi_cons zw_1056 (zi_cons zw_112 (zi_cons zw_1062 (zi_cons zw_1063 (zi_cons zw_1064 (zi_cons zw_341 zi_nil)))))))))))))) (zi_app inX0 (zi_app inX2 (zi_app inX11 (zi_app zi_k222_X0_openBoth (zi_app zi_k249_X2_traceWay (zi_app zi_k251_X2_wayPlace zi_nil)))))))
set_option maxHeartbeats 4000000 in
set_option maxRecDepth 100000 in
theorem k248_X11_way (l : Launch) (D : va_G) (zt : Nat × Nat × Nat × (Nat → Nat) × (Nat → Nat)) (q : Nat → Nat) (d : Nat → ClassId) (I : Nat → Int32) (A : Nat → Nat → Int32) (z1 : Int32) (z2 : Int32) (z3 : Int32) (hIv : IvX I A) : GM l D zt (tyX d) yX11_way wz_k248_X11_way ({ frames := 6, cells := 0, slots := 0, locals := 131 } : Room) [.ref (q 0), .int z1, .int z2, .int z3] (wX q d I A) (fun v _ w' => ∃ (I' : Nat → Int32) (A' : Nat → Nat → Int32), Md [28, 29, 30, 31, 32, 33, 34] I I' ∧ Md [21, 22, 23, 24] A A' ∧ IvX I' A' ∧ ∃ y0 : Int32, FE (fX11_way I A z1 z2 z3) (y0, I', A') ∧ v = some (.int y0) ∧ w' = wX q d I' A') 0 0 := by
  refine GM.of (cc := cX11_way) (maxL := 4) (ret := (some .int)) (own := RX11) (lv := [(0, .ref (q 0)), (1, .int z1), (2, .int z2), (3, .int z3)]) (by decide) rfl rfl (Nat.le_of_ble_eq_true rfl) rfl (fun κ sz hk hR hN => ?_)
  have hin0 : ∀ w ∈ u_ws RX0 TX0 5, w ∈ wz_k248_X11_way := fun w h => (List.mem_cons_of_mem _ (List.mem_append_right _ (List.mem_append_left _ h)))
  have hin2 : ∀ w ∈ u_ws RX2 TX2 10, w ∈ wz_k248_X11_way := fun w h => (List.mem_cons_of_mem _ (List.mem_append_right _ (List.mem_append_right _ (List.mem_append_left _ h))))
  have hin11 : ∀ w ∈ u_ws RX11 TX11 10, w ∈ wz_k248_X11_way := fun w h => (List.mem_cons_of_mem _ (List.mem_append_right _ (List.mem_append_right _ (List.mem_append_right _ (List.mem_append_left _ h)))))
  have hF : FE (fX11_way I A z1 z2 z3) (fX11_way I A z1 z2 z3) := FE.rf
  refine g_aload_n hk dX11_way_0 rfl ?_
  refine gX_r0_7 hk hin11 (List.mem_cons_of_mem _ (List.mem_append_left _ (List.mem_of_getElem? (i := 0) rfl))) dX11_way_1 ?_
  refine g_iload_n hk dX11_way_4 rfl ?_
  refine g_iload_n hk dX11_way_5 rfl ?_
  refine g_callV (n := 2) hk (k222_X0_openBoth l D zt q d I A z1 z2 hIv) (SP.same _) (fun _ h => h) (gi_V (List.mem_cons_of_mem _ (List.mem_append_left _ (List.mem_of_getElem? (i := 1) rfl))) (List.mem_cons_of_mem _ (List.mem_append_left _ (List.mem_of_getElem? (i := 2) rfl))) (List.mem_cons_of_mem _ (List.mem_append_left _ (List.mem_of_getElem? (i := 3) rfl))) (List.mem_cons_of_mem _ (List.mem_append_left _ (List.mem_of_getElem? (i := 4) rfl))) (gi_sub (fun w h => (List.mem_cons_of_mem _ (List.mem_append_right _ (List.mem_append_right _ (List.mem_append_right _ (List.mem_append_right _ (List.mem_append_left _ h))))))) zg_k222_X0_openBoth)) rfl rfl rfl (by decide +kernel) ⟨Nat.le_of_ble_eq_true rfl, Nat.le_of_ble_eq_true rfl⟩ 37 rfl rfl rfl rfl (Nat.le_of_ble_eq_true rfl) ⟨Nat.le_of_ble_eq_true rfl, Nat.le_of_ble_eq_true rfl⟩ dX11_way_6 (fun v ty' w' hp hk' => ?_)
  obtain ⟨I4425, A4425, hI4425, hA4425, hV4425, y4422, c4423, c4424, hC, rfl, rfl⟩ := hp
  replace hF := FE.bdX hF hC
  show GW κ 4 0 0 (wX q d I4425 A4425) 9 [(0, .ref (q 0)), (1, .int z1), (2, .int z2), (3, .int z3)] [.int y4422]
  refine g_if_ne (tgt := 14) (a := y4422.toInt) hk dX11_way_9 (by decide) rfl (fun c4426 => ?_) (fun c4426 => ?_)
  · skip
    replace hF := FE.pos hF c4426
    refine g_aload_n hk dX11_way_14 rfl ?_
    refine gX_r0_7 hk hin11 (List.mem_cons_of_mem _ (List.mem_append_left _ (List.mem_of_getElem? (i := 0) rfl))) dX11_way_15 ?_
    refine gX_r37_3 hk hin0 (List.mem_cons_of_mem _ (List.mem_append_left _ (List.mem_of_getElem? (i := 5) rfl))) dX11_way_18 ?_
    refine g_callV (n := 0) hk (k249_X2_traceWay l D zt q d I4425 A4425  hV4425) (SP.same _) (fun _ h => h) (gi_V (List.mem_cons_of_mem _ (List.mem_append_left _ (List.mem_of_getElem? (i := 6) rfl))) (List.mem_cons_of_mem _ (List.mem_append_left _ (List.mem_of_getElem? (i := 7) rfl))) (List.mem_cons_of_mem _ (List.mem_append_left _ (List.mem_of_getElem? (i := 8) rfl))) (List.mem_cons_of_mem _ (List.mem_append_left _ (List.mem_of_getElem? (i := 9) rfl))) (gi_sub (fun w h => (List.mem_cons_of_mem _ (List.mem_append_right _ (List.mem_append_right _ (List.mem_append_right _ (List.mem_append_right _ (List.mem_append_right _ (List.mem_append_left _ h)))))))) zg_k249_X2_traceWay)) rfl rfl rfl (by decide +kernel) ⟨Nat.le_of_ble_eq_true rfl, Nat.le_of_ble_eq_true rfl⟩ 38 rfl rfl rfl rfl (Nat.le_of_ble_eq_true rfl) ⟨Nat.le_of_ble_eq_true rfl, Nat.le_of_ble_eq_true rfl⟩ dX11_way_21 (fun v ty' w' hp hk' => ?_)
    obtain ⟨I4619, A4619, hI4619, hA4619, hV4619, hC, rfl, rfl⟩ := hp
    replace hF := FE.bdX hF hC
    show GW κ 4 0 0 (wX q d I4619 A4619) 24 [(0, .ref (q 0)), (1, .int z1), (2, .int z2), (3, .int z3)] []
    refine g_iload_n hk dX11_way_24 rfl ?_
    refine g_iconst (v := (-1)) hk dX11_way_25 (by decide) ?_
    have b4620l := Int32.le_toInt z3
    have b4620h := Int32.toInt_lt z3
    refine g_icmp_ne (tgt := 42) (a := z3.toInt) (b := (-1)) hk dX11_way_26 (by decide) rfl rfl (fun c4621 => ?_) (fun c4621 => ?_)
    · skip
      replace hF := FE.pos hF c4621
      refine g_aload_n hk dX11_way_42 rfl ?_
      refine gX_r0_7 hk hin11 (List.mem_cons_of_mem _ (List.mem_append_left _ (List.mem_of_getElem? (i := 0) rfl))) dX11_way_43 ?_
      refine gX_r37_3 hk hin0 (List.mem_cons_of_mem _ (List.mem_append_left _ (List.mem_of_getElem? (i := 5) rfl))) dX11_way_46 ?_
      refine g_iload_n hk dX11_way_49 rfl ?_
      refine g_callV (n := 1) hk (k251_X2_wayPlace l D zt q d I4619 A4619 z3 hV4619) (SP.same _) (fun _ h => h) (gi_V (List.mem_cons_of_mem _ (List.mem_append_left _ (List.mem_of_getElem? (i := 10) rfl))) (List.mem_cons_of_mem _ (List.mem_append_left _ (List.mem_of_getElem? (i := 11) rfl))) (List.mem_cons_of_mem _ (List.mem_append_left _ (List.mem_of_getElem? (i := 12) rfl))) (List.mem_cons_of_mem _ (List.mem_append_left _ (List.mem_of_getElem? (i := 9) rfl))) (gi_sub (fun w h => (List.mem_cons_of_mem _ (List.mem_append_right _ (List.mem_append_right _ (List.mem_append_right _ (List.mem_append_right _ (List.mem_append_right _ (List.mem_append_right _ (List.mem_append_left _ h))))))))) zg_k251_X2_wayPlace)) rfl rfl rfl (by decide +kernel) ⟨Nat.le_of_ble_eq_true rfl, Nat.le_of_ble_eq_true rfl⟩ 38 rfl rfl rfl rfl (Nat.le_of_ble_eq_true rfl) ⟨Nat.le_of_ble_eq_true rfl, Nat.le_of_ble_eq_true rfl⟩ dX11_way_50 (fun v ty' w' hp hk' => ?_)
      obtain ⟨y4632, hC, rfl, rfl⟩ := hp
      replace hF := FE.lt hF (fe_s hC)
      show GW κ 4 0 0 (wX q d I4619 A4619) 53 [(0, .ref (q 0)), (1, .int z1), (2, .int z2), (3, .int z3)] [.int y4632]
      have b4633l := Int32.le_toInt y4632
      have b4633h := Int32.toInt_lt y4632
      exact g_iret hk hR rfl ⟨I4619, A4619, (show Md [28, 29, 30, 31, 32, 33, 34] I I4619 from (Md.tr (Md.tr Md.rf hI4425 rfl) hI4619 rfl)), (show Md [21, 22, 23, 24] A A4619 from (Md.tr (Md.tr Md.rf hA4425 rfl) hA4619 rfl)), hV4619, y4632, hF, rfl, rfl⟩ dX11_way_53
    · skip
      replace hF := FE.neg hF c4621
      refine g_aload_n hk dX11_way_29 rfl ?_
      refine gX_r0_7 hk hin11 (List.mem_cons_of_mem _ (List.mem_append_left _ (List.mem_of_getElem? (i := 0) rfl))) dX11_way_30 ?_
      refine gX_r37_3 hk hin0 (List.mem_cons_of_mem _ (List.mem_append_left _ (List.mem_of_getElem? (i := 5) rfl))) dX11_way_33 ?_
      refine gX_i29 (v := (I4619 29)) hk hin2 (List.mem_cons_of_mem _ (List.mem_append_left _ (List.mem_of_getElem? (i := 13) rfl))) dX11_way_36 rfl ?_
      refine g_goto (tgt := 53) hk dX11_way_39 (by decide) ?_
      have b4634l := Int32.le_toInt (I4619 29)
      have b4634h := Int32.toInt_lt (I4619 29)
      exact g_iret hk hR rfl ⟨I4619, A4619, (show Md [28, 29, 30, 31, 32, 33, 34] I I4619 from (Md.tr (Md.tr Md.rf hI4425 rfl) hI4619 rfl)), (show Md [21, 22, 23, 24] A A4619 from (Md.tr (Md.tr Md.rf hA4425 rfl) hA4619 rfl)), hV4619, (I4619 29), hF, rfl, rfl⟩ dX11_way_53
  · skip
    replace hF := FE.neg hF c4426
    refine g_iconst (v := (-1)) hk dX11_way_12 (by decide) ?_
    exact g_iret hk hR rfl ⟨I4425, A4425, (show Md [28, 29, 30, 31, 32, 33, 34] I I4425 from (Md.tr Md.rf hI4425 rfl)), (show Md [21, 22, 23, 24] A A4425 from (Md.tr Md.rf hA4425 rfl)), hV4425, (-1), hF, rfl, rfl⟩ dX11_way_13
noncomputable def bX2_stepsInBoth_4 (I : Nat → Int32) (A : Nat → Nat → Int32) : (Int32 → Int32 → (Int32)) → Int32 → Int32 → (Int32) := fun kk4708 x4646 x4647 => if (I 29).toInt ≤ x4646.toInt then x4647 else f_lt (fX2_wayPlace I A x4646) fun y4714 => f_lt (x4646 - (1 : Int32)) fun y4715 => f_lt (fX2_wayPlace I A y4715) fun y4716 => f_lt (y4714 - y4716) fun y4719 => if y4719.toInt ≠ 101 then f_lt (x4646 + Int32.ofInt 1) fun y4722 => kk4708 y4722 x4647 else f_lt (x4647 + Int32.ofInt 1) fun y4724 => f_lt (x4646 + Int32.ofInt 1) fun y4725 => kk4708 y4725 y4724
noncomputable def fX2_stepsInBoth (I : Nat → Int32) (A : Nat → Nat → Int32) : Int32 := itr_ii (0 : Int32) (bX2_stepsInBoth_4 I A) FU 1 0
def wo_k253_X2_stepsInBoth : List Cond := [Cond.fieldLink RX2 101 "WarpDesk$Fit" "wayLength" "I", Cond.methodLink RX2 107 yX2_wayPlace, Cond.instanceMethod yX2_wayPlace, Cond.selects RX2 yX2_wayPlace yX2_wayPlace, Cond.initialized RX2]
def wz_k253_X2_stepsInBoth : List Cond := .code yX2_stepsInBoth cX2_stepsInBoth 3 (some .int) :: (wo_k253_X2_stepsInBoth ++ (wsX20 ++ (wz_k251_X2_wayPlace ++ ([] : List Cond))))
theorem zg_k253_X2_stepsInBoth : ∀ w ∈ wz_k253_X2_stepsInBoth, goodWord w = true := zg_cons rfl (zg_app (by decide +kernel) (zg_app zgU_wsX20 (zg_app zg_k251_X2_wayPlace zg_nil)))
theorem zi_k253_X2_stepsInBoth : ∀ w ∈ wz_k253_X2_stepsInBoth, w ∈ lw_tbl := zi_cons zw_1081 (zi_app (zi_cons zw_342 (zi_cons zw_1074 (zi_cons zw_1063 (zi_cons zw_1064 (zi_cons zw_112 zi_nil))))) (zi_app inX2 (zi_app zi_k251_X2_wayPlace zi_nil)))
set_option maxHeartbeats 4000000 in
set_option maxRecDepth 100000 in
theorem k253_X2_stepsInBoth (l : Launch) (D : va_G) (zt : Nat × Nat × Nat × (Nat → Nat) × (Nat → Nat)) (q : Nat → Nat) (d : Nat → ClassId) (I : Nat → Int32) (A : Nat → Nat → Int32) (hIv : IvX I A) : GM l D zt (tyX d) yX2_stepsInBoth wz_k253_X2_stepsInBoth ({ frames := 1, cells := 0, slots := 0, locals := 22 } : Room) [.ref (q 38)] (wX q d I A) (fun v _ w' => ∃ y0 : Int32, FE (fX2_stepsInBoth I A) y0 ∧ v = some (.int y0) ∧ w' = wX q d I A) 0 0 := by
  refine GM.of (cc := cX2_stepsInBoth) (maxL := 3) (ret := (some .int)) (own := RX2) (lv := [(0, .ref (q 38))]) (by decide) rfl rfl (Nat.le_of_ble_eq_true rfl) rfl (fun κ sz hk hR hN => ?_)
  have hin2 : ∀ w ∈ u_ws RX2 TX2 10, w ∈ wz_k253_X2_stepsInBoth := fun w h => (List.mem_cons_of_mem _ (List.mem_append_right _ (List.mem_append_left _ h)))
  have hF : FE (fX2_stepsInBoth I A) (fX2_stepsInBoth I A) := FE.rf
  refine g_iconst (v := 0) hk dX2_stepsInBoth_0 (by decide) ?_
  refine g_istore_n (lv' := [(1, .int 0), (0, .ref (q 38))]) hk dX2_stepsInBoth_1 (by decide) rfl ?_
  refine g_iconst (v := 1) hk dX2_stepsInBoth_2 (by decide) ?_
  refine g_istore_n (lv' := [(2, .int 1), (1, .int 0), (0, .ref (q 38))]) hk dX2_stepsInBoth_3 (by decide) rfl ?_
  have lp4705 : ∀ (n4706 : Nat) (x4646 : Int32) (x4647 : Int32), (1 ≤ x4646.toInt) → ((I 29).toInt + 1 - x4646.toInt < (n4706 : Int)) → (0 < n4706) → (FE (fX2_stepsInBoth I A) (itr_ii (0 : Int32) (bX2_stepsInBoth_4 I A) n4706 x4646 x4647)) → GW κ 3 0 0 (wX q d I A) 4 [(2, .int x4646), (1, .int x4647), (0, .ref (q 38))] [] := by
    intro n4706
    induction n4706 with
    | zero =>
      intro x4646 x4647 h4704 m4707 m4707z hF
      exact absurd m4707z (Nat.lt_irrefl 0)
    | succ n4706 ih4709 =>
      intro x4646 x4647 h4704 m4707 m4707z hF
      replace hF := FE.itr_ii hF
      refine g_iload_n hk dX2_stepsInBoth_4 rfl ?_
      refine g_aload_n hk dX2_stepsInBoth_5 rfl ?_
      refine gX_i29 (v := (I 29)) hk hin2 (List.mem_cons_of_mem _ (List.mem_append_left _ (List.mem_of_getElem? (i := 0) rfl))) dX2_stepsInBoth_6 rfl ?_
      have b4710l := Int32.le_toInt x4646
      have b4710h := Int32.toInt_lt x4646
      have b4711l := Int32.le_toInt (I 29)
      have b4711h := Int32.toInt_lt (I 29)
      refine g_icmp_ge (tgt := 39) (a := x4646.toInt) (b := (I 29).toInt) hk dX2_stepsInBoth_9 (by decide) rfl rfl (fun c4712 => ?_) (fun c4712 => ?_)
      · skip
        replace hF := FE.pos hF c4712
        refine g_iload_n hk dX2_stepsInBoth_39 rfl ?_
        have b4713l := Int32.le_toInt x4647
        have b4713h := Int32.toInt_lt x4647
        exact g_iret hk hR rfl ⟨x4647, hF, rfl, rfl⟩ dX2_stepsInBoth_40
      · skip
        replace hF := FE.neg hF c4712
        refine g_aload_n hk dX2_stepsInBoth_12 rfl ?_
        refine g_iload_n hk dX2_stepsInBoth_13 rfl ?_
        refine g_callV (n := 1) hk (k251_X2_wayPlace l D zt q d I A x4646 hIv) (SP.same _) (fun _ h => h) (gi_V (List.mem_cons_of_mem _ (List.mem_append_left _ (List.mem_of_getElem? (i := 1) rfl))) (List.mem_cons_of_mem _ (List.mem_append_left _ (List.mem_of_getElem? (i := 2) rfl))) (List.mem_cons_of_mem _ (List.mem_append_left _ (List.mem_of_getElem? (i := 3) rfl))) (List.mem_cons_of_mem _ (List.mem_append_left _ (List.mem_of_getElem? (i := 4) rfl))) (gi_sub (fun w h => (List.mem_cons_of_mem _ (List.mem_append_right _ (List.mem_append_right _ (List.mem_append_left _ h))))) zg_k251_X2_wayPlace)) rfl rfl rfl (by decide +kernel) ⟨Nat.le_of_ble_eq_true rfl, Nat.le_of_ble_eq_true rfl⟩ 38 rfl rfl rfl rfl (Nat.le_of_ble_eq_true rfl) ⟨Nat.le_of_ble_eq_true rfl, Nat.le_of_ble_eq_true rfl⟩ dX2_stepsInBoth_14 (fun v ty' w' hp hk' => ?_)
        obtain ⟨y4714, hC, rfl, rfl⟩ := hp
        replace hF := FE.lt hF (fe_s hC)
        show GW κ 3 0 0 (wX q d I A) 17 [(2, .int x4646), (1, .int x4647), (0, .ref (q 38))] [.int y4714]
        refine g_aload_n hk dX2_stepsInBoth_17 rfl ?_
        refine g_iload_n hk dX2_stepsInBoth_18 rfl ?_
        refine g_iconst (v := 1) hk dX2_stepsInBoth_19 (by decide) ?_
        refine g_isub hk dX2_stepsInBoth_20 ?_
        refine g_topi (fun y4715 ey4715 => ?_)
        replace hF := FE.lt hF ey4715
        have hy4715 : y4715.toInt = x4646.toInt - 1 := i32_sub ey4715 rfl rfl (by omega) (by omega)
        refine g_callV (n := 1) hk (k251_X2_wayPlace l D zt q d I A y4715 hIv) (SP.same _) (fun _ h => h) (gi_V (List.mem_cons_of_mem _ (List.mem_append_left _ (List.mem_of_getElem? (i := 1) rfl))) (List.mem_cons_of_mem _ (List.mem_append_left _ (List.mem_of_getElem? (i := 2) rfl))) (List.mem_cons_of_mem _ (List.mem_append_left _ (List.mem_of_getElem? (i := 3) rfl))) (List.mem_cons_of_mem _ (List.mem_append_left _ (List.mem_of_getElem? (i := 4) rfl))) (gi_sub (fun w h => (List.mem_cons_of_mem _ (List.mem_append_right _ (List.mem_append_right _ (List.mem_append_left _ h))))) zg_k251_X2_wayPlace)) rfl rfl rfl (by decide +kernel) ⟨Nat.le_of_ble_eq_true rfl, Nat.le_of_ble_eq_true rfl⟩ 38 rfl rfl rfl rfl (Nat.le_of_ble_eq_true rfl) ⟨Nat.le_of_ble_eq_true rfl, Nat.le_of_ble_eq_true rfl⟩ dX2_stepsInBoth_21 (fun v ty' w' hp hk' => ?_)
        obtain ⟨y4716, hC, rfl, rfl⟩ := hp
        replace hF := FE.lt hF (fe_s hC)
        show GW κ 3 0 0 (wX q d I A) 24 [(2, .int x4646), (1, .int x4647), (0, .ref (q 38))] [.int y4716, .int y4714]
        have b4717l := Int32.le_toInt y4714
        have b4717h := Int32.toInt_lt y4714
        have b4718l := Int32.le_toInt y4716
        have b4718h := Int32.toInt_lt y4716
        refine g_isub hk dX2_stepsInBoth_24 ?_
        refine g_topi (fun y4719 ey4719 => ?_)
        replace hF := FE.lt hF ey4719
        have hy4719 := i32_sub0 ey4719
        refine g_bipush (v := 101) hk dX2_stepsInBoth_25 (by decide) ?_
        have b4720l := Int32.le_toInt y4719
        have b4720h := Int32.toInt_lt y4719
        refine g_icmp_ne (tgt := 33) (a := y4719.toInt) (b := 101) hk dX2_stepsInBoth_27 (by decide) rfl rfl (fun c4721 => ?_) (fun c4721 => ?_)
        · skip
          replace hF := FE.pos hF c4721
          obtain ⟨y4722, ey4722⟩ : ∃ y : Int32, y = x4646 + Int32.ofInt 1 := ⟨_, rfl⟩
          replace hF := FE.lt hF ey4722
          have hy4722 : y4722.toInt = x4646.toInt + 1 := i32_add ey4722 rfl (by decide) (by omega) (by omega)
          refine g_iinc (v := y4722) (lv' := [(2, .int y4722), (1, .int x4647), (0, .ref (q 38))]) hk 0 dX2_stepsInBoth_33 rfl ey4722.symm (by decide) rfl ?_
          refine g_goto (tgt := 4) hk dX2_stepsInBoth_36 (by decide) ?_
          exact g_lv (List.forall_mem_cons.mpr ⟨List.mem_of_getElem? (i := 0) rfl, (List.forall_mem_cons.mpr ⟨List.mem_of_getElem? (i := 1) rfl, (List.forall_mem_cons.mpr ⟨List.mem_of_getElem? (i := 2) rfl, (fun _ h => absurd h List.not_mem_nil)⟩)⟩)⟩) (ih4709 y4722 x4647 (by omega) (by omega) (by omega) hF)
        · skip
          replace hF := FE.neg hF c4721
          have b4723l := Int32.le_toInt x4647
          have b4723h := Int32.toInt_lt x4647
          obtain ⟨y4724, ey4724⟩ : ∃ y : Int32, y = x4647 + Int32.ofInt 1 := ⟨_, rfl⟩
          replace hF := FE.lt hF ey4724
          refine g_iinc (v := y4724) (lv' := [(1, .int y4724), (2, .int x4646), (0, .ref (q 38))]) hk 1 dX2_stepsInBoth_30 rfl ey4724.symm (by decide) rfl ?_
          obtain ⟨y4725, ey4725⟩ : ∃ y : Int32, y = x4646 + Int32.ofInt 1 := ⟨_, rfl⟩
          replace hF := FE.lt hF ey4725
          have hy4725 : y4725.toInt = x4646.toInt + 1 := i32_add ey4725 rfl (by decide) (by omega) (by omega)
          refine g_iinc (v := y4725) (lv' := [(2, .int y4725), (1, .int y4724), (0, .ref (q 38))]) hk 1 dX2_stepsInBoth_33 rfl ey4725.symm (by decide) rfl ?_
          refine g_goto (tgt := 4) hk dX2_stepsInBoth_36 (by decide) ?_
          exact g_lv (List.forall_mem_cons.mpr ⟨List.mem_of_getElem? (i := 0) rfl, (List.forall_mem_cons.mpr ⟨List.mem_of_getElem? (i := 1) rfl, (List.forall_mem_cons.mpr ⟨List.mem_of_getElem? (i := 2) rfl, (fun _ h => absurd h List.not_mem_nil)⟩)⟩)⟩) (ih4709 y4725 y4724 (by omega) (by omega) (by omega) hF)
  have k4727 : (1 : Int32).toInt = 1 := rfl
  have k4728 : (0 : Int32).toInt = 0 := rfl
  have b4729 := Int32.le_toInt (I 29)
  have b4730 := Int32.toInt_lt (I 29)
  have n4726a : (I 29).toInt + 1 - 1 < (FU : Int) := by have := FU_eq; omega
  have n4726b : 0 < FU := by have := FU_eq; omega
  exact lp4705 FU 1 0 (by omega) n4726a n4726b hF
noncomputable def bX2_widestOfWay_4 (I : Nat → Int32) (A : Nat → Nat → Int32) : (Int32 → Int32 → (Int32)) → Int32 → Int32 → (Int32) := fun kk4784 x4733 x4734 => if (I 29).toInt ≤ x4733.toInt then x4734 else f_lt (fX2_wayPlace I A x4733) fun y4790 => f_lt (y4790 / (100 : Int32)) fun y4791 => f_lt (y4790 - y4790 / (100 : Int32) * (100 : Int32)) fun y4792 => f_lt (y4791 - y4792) fun y4795 => f_lt (if 0 ≤ y4795 then y4795 else 0 - y4795) fun y4797 => f_lt (if x4734 < y4797 then y4797 else x4734) fun y4800 => f_lt (x4733 + Int32.ofInt 1) fun y4801 => kk4784 y4801 y4800
noncomputable def fX2_widestOfWay (I : Nat → Int32) (A : Nat → Nat → Int32) : Int32 := itr_ii (0 : Int32) (bX2_widestOfWay_4 I A) FU 0 0
def wo_k254_X2_widestOfWay : List Cond := [Cond.fieldLink RX2 101 "WarpDesk$Fit" "wayLength" "I", Cond.methodLink RX2 107 yX2_wayPlace, Cond.instanceMethod yX2_wayPlace, Cond.selects RX2 yX2_wayPlace yX2_wayPlace, Cond.initialized RX2, Cond.methodLink RX2 110 Lib.Math.abs.name, Cond.static Lib.Math.abs.name, Cond.initialized "java/lang/Math", Cond.code Lib.Math.abs.name Lib.Math.abs.code 1 (some .int), Cond.methodLink RX2 34 Lib.Math.max.name, Cond.static Lib.Math.max.name, Cond.code Lib.Math.max.name Lib.Math.max.code 2 (some .int)]
def wz_k254_X2_widestOfWay : List Cond := .code yX2_widestOfWay cX2_widestOfWay 4 (some .int) :: (wo_k254_X2_widestOfWay ++ (wsX20 ++ (wz_k251_X2_wayPlace ++ ([] : List Cond))))
theorem zg_k254_X2_widestOfWay : ∀ w ∈ wz_k254_X2_widestOfWay, goodWord w = true := zg_cons rfl (zg_app (by decide +kernel) (zg_app zgU_wsX20 (zg_app zg_k251_X2_wayPlace zg_nil)))
theorem zi_k254_X2_widestOfWay : ∀ w ∈ wz_k254_X2_widestOfWay, w ∈ lw_tbl := zi_cons zw_1073 (zi_app (zi_cons zw_342 (zi_cons zw_1074 (zi_cons zw_1063 (zi_cons zw_1064 (zi_cons zw_112 (zi_cons zw_1075 (zi_cons zw_1076 (zi_cons zw_120 (zi_cons zw_1077 (zi_cons zw_943 (zi_cons zw_920 (zi_cons zw_921 zi_nil)))))))))))) (zi_app inX2 (zi_app zi_k251_X2_wayPlace zi_nil)))
set_option maxHeartbeats 4000000 in
set_option maxRecDepth 100000 in
theorem k254_X2_widestOfWay (l : Launch) (D : va_G) (zt : Nat × Nat × Nat × (Nat → Nat) × (Nat → Nat)) (q : Nat → Nat) (d : Nat → ClassId) (I : Nat → Int32) (A : Nat → Nat → Int32) (hIv : IvX I A) : GM l D zt (tyX d) yX2_widestOfWay wz_k254_X2_widestOfWay ({ frames := 1, cells := 0, slots := 0, locals := 22 } : Room) [.ref (q 38)] (wX q d I A) (fun v _ w' => ∃ y0 : Int32, (0 ≤ y0.toInt) ∧ FE (fX2_widestOfWay I A) y0 ∧ v = some (.int y0) ∧ w' = wX q d I A) 0 0 := by
  refine GM.of (cc := cX2_widestOfWay) (maxL := 4) (ret := (some .int)) (own := RX2) (lv := [(0, .ref (q 38))]) (by decide) rfl rfl (Nat.le_of_ble_eq_true rfl) rfl (fun κ sz hk hR hN => ?_)
  have hin2 : ∀ w ∈ u_ws RX2 TX2 10, w ∈ wz_k254_X2_widestOfWay := fun w h => (List.mem_cons_of_mem _ (List.mem_append_right _ (List.mem_append_left _ h)))
  have hF : FE (fX2_widestOfWay I A) (fX2_widestOfWay I A) := FE.rf
  refine g_iconst (v := 0) hk dX2_widestOfWay_0 (by decide) ?_
  refine g_istore_n (lv' := [(1, .int 0), (0, .ref (q 38))]) hk dX2_widestOfWay_1 (by decide) rfl ?_
  refine g_iconst (v := 0) hk dX2_widestOfWay_2 (by decide) ?_
  refine g_istore_n (lv' := [(2, .int 0), (1, .int 0), (0, .ref (q 38))]) hk dX2_widestOfWay_3 (by decide) rfl ?_
  have lp4781 : ∀ (n4782 : Nat) (x4733 : Int32) (x4734 : Int32), (0 ≤ x4733.toInt) → (0 ≤ x4734.toInt) → ((I 29).toInt + 1 - x4733.toInt < (n4782 : Int)) → (0 < n4782) → (FE (fX2_widestOfWay I A) (itr_ii (0 : Int32) (bX2_widestOfWay_4 I A) n4782 x4733 x4734)) → GW κ 4 0 0 (wX q d I A) 4 [(2, .int x4733), (1, .int x4734), (0, .ref (q 38))] [] := by
    intro n4782
    induction n4782 with
    | zero =>
      intro x4733 x4734 h4779 h4780 m4783 m4783z hF
      exact absurd m4783z (Nat.lt_irrefl 0)
    | succ n4782 ih4785 =>
      intro x4733 x4734 h4779 h4780 m4783 m4783z hF
      replace hF := FE.itr_ii hF
      refine g_iload_n hk dX2_widestOfWay_4 rfl ?_
      refine g_aload_n hk dX2_widestOfWay_5 rfl ?_
      refine gX_i29 (v := (I 29)) hk hin2 (List.mem_cons_of_mem _ (List.mem_append_left _ (List.mem_of_getElem? (i := 0) rfl))) dX2_widestOfWay_6 rfl ?_
      have b4786l := Int32.le_toInt x4733
      have b4786h := Int32.toInt_lt x4733
      have b4787l := Int32.le_toInt (I 29)
      have b4787h := Int32.toInt_lt (I 29)
      refine g_icmp_ge (tgt := 41) (a := x4733.toInt) (b := (I 29).toInt) hk dX2_widestOfWay_9 (by decide) rfl rfl (fun c4788 => ?_) (fun c4788 => ?_)
      · skip
        replace hF := FE.pos hF c4788
        refine g_iload_n hk dX2_widestOfWay_41 rfl ?_
        have b4789l := Int32.le_toInt x4734
        have b4789h := Int32.toInt_lt x4734
        exact g_iret hk hR rfl ⟨x4734, (by omega), hF, rfl, rfl⟩ dX2_widestOfWay_42
      · skip
        replace hF := FE.neg hF c4788
        refine g_aload_n hk dX2_widestOfWay_12 rfl ?_
        refine g_iload_n hk dX2_widestOfWay_13 rfl ?_
        refine g_callV (n := 1) hk (k251_X2_wayPlace l D zt q d I A x4733 hIv) (SP.same _) (fun _ h => h) (gi_V (List.mem_cons_of_mem _ (List.mem_append_left _ (List.mem_of_getElem? (i := 1) rfl))) (List.mem_cons_of_mem _ (List.mem_append_left _ (List.mem_of_getElem? (i := 2) rfl))) (List.mem_cons_of_mem _ (List.mem_append_left _ (List.mem_of_getElem? (i := 3) rfl))) (List.mem_cons_of_mem _ (List.mem_append_left _ (List.mem_of_getElem? (i := 4) rfl))) (gi_sub (fun w h => (List.mem_cons_of_mem _ (List.mem_append_right _ (List.mem_append_right _ (List.mem_append_left _ h))))) zg_k251_X2_wayPlace)) rfl rfl rfl (by decide +kernel) ⟨Nat.le_of_ble_eq_true rfl, Nat.le_of_ble_eq_true rfl⟩ 38 rfl rfl rfl rfl (Nat.le_of_ble_eq_true rfl) ⟨Nat.le_of_ble_eq_true rfl, Nat.le_of_ble_eq_true rfl⟩ dX2_widestOfWay_14 (fun v ty' w' hp hk' => ?_)
        obtain ⟨y4790, hC, rfl, rfl⟩ := hp
        replace hF := FE.lt hF (fe_s hC)
        show GW κ 4 0 0 (wX q d I A) 17 [(2, .int x4733), (1, .int x4734), (0, .ref (q 38))] [.int y4790]
        refine g_istore_n (lv' := [(3, .int y4790), (2, .int x4733), (1, .int x4734), (0, .ref (q 38))]) hk dX2_widestOfWay_17 (by decide) rfl ?_
        refine g_iload_n hk dX2_widestOfWay_18 rfl ?_
        refine g_iload_n hk dX2_widestOfWay_19 rfl ?_
        refine g_bipush (v := 100) hk dX2_widestOfWay_20 (by decide) ?_
        refine g_idiv hk dX2_widestOfWay_22 (by decide) ?_
        refine g_topi (fun y4791 ey4791 => ?_)
        replace hF := FE.lt hF ey4791
        refine g_iload_n hk dX2_widestOfWay_23 rfl ?_
        refine g_bipush (v := 100) hk dX2_widestOfWay_24 (by decide) ?_
        refine g_irem hk dX2_widestOfWay_26 (by decide) ?_
        refine g_topi (fun y4792 ey4792 => ?_)
        replace hF := FE.lt hF ey4792
        have b4793l := Int32.le_toInt y4791
        have b4793h := Int32.toInt_lt y4791
        have b4794l := Int32.le_toInt y4792
        have b4794h := Int32.toInt_lt y4792
        refine g_isub hk dX2_widestOfWay_27 ?_
        refine g_topi (fun y4795 ey4795 => ?_)
        replace hF := FE.lt hF ey4795
        have hy4795 := i32_sub0 ey4795
        have b4796l := Int32.le_toInt y4795
        have b4796h := Int32.toInt_lt y4795
        refine g_mabs hk (List.mem_cons_of_mem _ (List.mem_append_left _ (List.mem_of_getElem? (i := 5) rfl))) (List.mem_cons_of_mem _ (List.mem_append_left _ (List.mem_of_getElem? (i := 6) rfl))) (List.mem_cons_of_mem _ (List.mem_append_left _ (List.mem_of_getElem? (i := 7) rfl))) (List.mem_cons_of_mem _ (List.mem_append_left _ (List.mem_of_getElem? (i := 8) rfl))) (Nat.le_of_ble_eq_true rfl) (Nat.le_of_ble_eq_true rfl) (Nat.le_of_ble_eq_true rfl) (Nat.le_of_ble_eq_true rfl) dX2_widestOfWay_28 ?_
        refine g_topi (fun y4797 ey4797 => ?_)
        replace hF := FE.lt hF ey4797
        have b4798l := Int32.le_toInt y4797
        have b4798h := Int32.toInt_lt y4797
        have b4799l := Int32.le_toInt x4734
        have b4799h := Int32.toInt_lt x4734
        refine g_mmax hk (List.mem_cons_of_mem _ (List.mem_append_left _ (List.mem_of_getElem? (i := 9) rfl))) (List.mem_cons_of_mem _ (List.mem_append_left _ (List.mem_of_getElem? (i := 10) rfl))) (List.mem_cons_of_mem _ (List.mem_append_left _ (List.mem_of_getElem? (i := 7) rfl))) (List.mem_cons_of_mem _ (List.mem_append_left _ (List.mem_of_getElem? (i := 11) rfl))) (Nat.le_of_ble_eq_true rfl) (Nat.le_of_ble_eq_true rfl) (Nat.le_of_ble_eq_true rfl) (Nat.le_of_ble_eq_true rfl) dX2_widestOfWay_31 ?_
        refine g_topi (fun y4800 ey4800 => ?_)
        replace hF := FE.lt hF ey4800
        have hy4800 := i32_max ey4800
        refine g_istore_n (lv' := [(1, .int y4800), (3, .int y4790), (2, .int x4733), (0, .ref (q 38))]) hk dX2_widestOfWay_34 (by decide) rfl ?_
        obtain ⟨y4801, ey4801⟩ : ∃ y : Int32, y = x4733 + Int32.ofInt 1 := ⟨_, rfl⟩
        replace hF := FE.lt hF ey4801
        have hy4801 : y4801.toInt = x4733.toInt + 1 := i32_add ey4801 rfl (by decide) (by omega) (by omega)
        refine g_iinc (v := y4801) (lv' := [(2, .int y4801), (1, .int y4800), (3, .int y4790), (0, .ref (q 38))]) hk 2 dX2_widestOfWay_35 rfl ey4801.symm (by decide) rfl ?_
        refine g_goto (tgt := 4) hk dX2_widestOfWay_38 (by decide) ?_
        exact g_lv (List.forall_mem_cons.mpr ⟨List.mem_of_getElem? (i := 0) rfl, (List.forall_mem_cons.mpr ⟨List.mem_of_getElem? (i := 1) rfl, (List.forall_mem_cons.mpr ⟨List.mem_of_getElem? (i := 3) rfl, (fun _ h => absurd h List.not_mem_nil)⟩)⟩)⟩) (ih4785 y4801 y4800 (by omega) (by omega) (by omega) (by omega) hF)
  have k4803 : (0 : Int32).toInt = 0 := rfl
  have b4804 := Int32.le_toInt (I 29)
  have b4805 := Int32.toInt_lt (I 29)
  have n4802a : (I 29).toInt + 1 - 0 < (FU : Int) := by have := FU_eq; omega
  have n4802b : 0 < FU := by have := FU_eq; omega
  exact lp4781 FU 0 0 (by omega) (by omega) n4802a n4802b hF
noncomputable def fX11_lean (I : Nat → Int32) (A : Nat → Nat → Int32) (z1 : Int32) (z2 : Int32) (z3 : Int32) : Int32 × (Nat → Int32) × (Nat → Nat → Int32) := if z3.toInt < 0 then ((-1), I, A) else if 1 < z3.toInt then ((-1), I, A) else f_bdX (fX0_openBoth I A z1 z2) fun y4638 I4641 A4641 => if y4638.toInt ≠ 0 then f_bdX (fX2_traceWay I4641 A4641) fun _ I4644 A4644 => if z3.toInt ≠ 0 then f_lt (fX2_stepsInBoth I4644 A4644) fun y4731 => (y4731, I4644, A4644) else f_lt (fX2_widestOfWay I4644 A4644) fun y4806 => (y4806, I4644, A4644) else ((-1), I4641, A4641)
def wo_k252_X11_lean : List Cond := [Cond.fieldLink RX11 65 "WarpDesk" "bench" "LWarpDesk$Bench;", Cond.methodLink RX11 212 yX0_openBoth, Cond.instanceMethod yX0_openBoth, Cond.selects RX0 yX0_openBoth yX0_openBoth, Cond.initialized RX0, Cond.fieldLink RX11 202 "WarpDesk$Bench" "fit" "LWarpDesk$Fit;", Cond.methodLink RX11 236 yX2_traceWay, Cond.instanceMethod yX2_traceWay, Cond.selects RX2 yX2_traceWay yX2_traceWay, Cond.initialized RX2, Cond.methodLink RX11 248 yX2_stepsInBoth, Cond.instanceMethod yX2_stepsInBoth, Cond.selects RX2 yX2_stepsInBoth yX2_stepsInBoth, Cond.methodLink RX11 245 yX2_widestOfWay, Cond.instanceMethod yX2_widestOfWay, Cond.selects RX2 yX2_widestOfWay yX2_widestOfWay]
def wz_k252_X11_lean : List Cond := .code yX11_lean cX11_lean 4 (some .int) :: (wo_k252_X11_lean ++ (wsX00 ++ (wsX110 ++ (wz_k222_X0_openBoth ++ (wz_k249_X2_traceWay ++ (wz_k253_X2_stepsInBoth ++ (wz_k254_X2_widestOfWay ++ ([] : List Cond))))))))
theorem zg_k252_X11_lean : ∀ w ∈ wz_k252_X11_lean, goodWord w = true := zg_cons rfl (zg_app (by decide +kernel) (zg_app zgU_wsX00 (zg_app zgU_wsX110 (zg_app zg_k222_X0_openBoth (zg_app zg_k249_X2_traceWay (zg_app zg_k253_X2_stepsInBoth (zg_app zg_k254_X2_widestOfWay zg_nil)))))))
theorem zi_k252_X11_lean : ∀ w ∈ wz_k252_X11_lean, w ∈ lw_tbl := zi_cons zw_1069 (zi_app (zi_cons zw_494 (zi_cons zw_969 (zi_cons zw_970 (zi_cons zw_971 (zi_cons zw_111 (zi_cons zw_383 (zi_cons zw_1054 (zi_cons zw_1055 (zi_cons zw_1056 (zi_cons zw_112 (zi_cons zw_1078 (zi_cons zw_1079 (zi_cons zw_1080 (zi_cons zw_1070 (zi_cons zw_1071 (zi_cons zw_1072 zi_nil)))))))))))))))) (zi_app inX0 (zi_app inX11 (zi_app zi_k222_X0_openBoth (zi_app zi_k249_X2_traceWay (zi_app zi_k253_X2_stepsInBoth (zi_app zi_k254_X2_widestOfWay zi_nil)))))))
set_option maxHeartbeats 4000000 in
set_option maxRecDepth 100000 in
theorem k252_X11_lean (l : Launch) (D : va_G) (zt : Nat × Nat × Nat × (Nat → Nat) × (Nat → Nat)) (q : Nat → Nat) (d : Nat → ClassId) (I : Nat → Int32) (A : Nat → Nat → Int32) (z1 : Int32) (z2 : Int32) (z3 : Int32) (hIv : IvX I A) : GM l D zt (tyX d) yX11_lean wz_k252_X11_lean ({ frames := 6, cells := 0, slots := 0, locals := 131 } : Room) [.ref (q 0), .int z1, .int z2, .int z3] (wX q d I A) (fun v _ w' => ∃ (I' : Nat → Int32) (A' : Nat → Nat → Int32), Md [28, 29, 30, 31, 32, 33, 34] I I' ∧ Md [21, 22, 23, 24] A A' ∧ IvX I' A' ∧ ∃ y0 : Int32, FE (fX11_lean I A z1 z2 z3) (y0, I', A') ∧ v = some (.int y0) ∧ w' = wX q d I' A') 0 0 := by
  refine GM.of (cc := cX11_lean) (maxL := 4) (ret := (some .int)) (own := RX11) (lv := [(0, .ref (q 0)), (1, .int z1), (2, .int z2), (3, .int z3)]) (by decide) rfl rfl (Nat.le_of_ble_eq_true rfl) rfl (fun κ sz hk hR hN => ?_)
  have hin0 : ∀ w ∈ u_ws RX0 TX0 5, w ∈ wz_k252_X11_lean := fun w h => (List.mem_cons_of_mem _ (List.mem_append_right _ (List.mem_append_left _ h)))
  have hin11 : ∀ w ∈ u_ws RX11 TX11 10, w ∈ wz_k252_X11_lean := fun w h => (List.mem_cons_of_mem _ (List.mem_append_right _ (List.mem_append_right _ (List.mem_append_left _ h))))
  have hF : FE (fX11_lean I A z1 z2 z3) (fX11_lean I A z1 z2 z3) := FE.rf
  refine g_iload_n hk dX11_lean_0 rfl ?_
  have b4635l := Int32.le_toInt z3
  have b4635h := Int32.toInt_lt z3
  refine g_if_lt (tgt := 21) (a := z3.toInt) hk dX11_lean_1 (by decide) rfl (fun c4636 => ?_) (fun c4636 => ?_)
  · skip
    replace hF := FE.pos hF c4636
    refine g_iconst (v := (-1)) hk dX11_lean_21 (by decide) ?_
    exact g_iret hk hR rfl ⟨I, A, (show Md [28, 29, 30, 31, 32, 33, 34] I I from Md.rf), (show Md [21, 22, 23, 24] A A from Md.rf), hIv, (-1), hF, rfl, rfl⟩ dX11_lean_22
  · skip
    replace hF := FE.neg hF c4636
    refine g_iload_n hk dX11_lean_4 rfl ?_
    refine g_iconst (v := 1) hk dX11_lean_5 (by decide) ?_
    refine g_icmp_gt (tgt := 21) (a := z3.toInt) (b := 1) hk dX11_lean_6 (by decide) rfl rfl (fun c4637 => ?_) (fun c4637 => ?_)
    · skip
      replace hF := FE.pos hF c4637
      refine g_iconst (v := (-1)) hk dX11_lean_21 (by decide) ?_
      exact g_iret hk hR rfl ⟨I, A, (show Md [28, 29, 30, 31, 32, 33, 34] I I from Md.rf), (show Md [21, 22, 23, 24] A A from Md.rf), hIv, (-1), hF, rfl, rfl⟩ dX11_lean_22
    · skip
      replace hF := FE.neg hF c4637
      refine g_aload_n hk dX11_lean_9 rfl ?_
      refine gX_r0_7 hk hin11 (List.mem_cons_of_mem _ (List.mem_append_left _ (List.mem_of_getElem? (i := 0) rfl))) dX11_lean_10 ?_
      refine g_iload_n hk dX11_lean_13 rfl ?_
      refine g_iload_n hk dX11_lean_14 rfl ?_
      refine g_callV (n := 2) hk (k222_X0_openBoth l D zt q d I A z1 z2 hIv) (SP.same _) (fun _ h => h) (gi_V (List.mem_cons_of_mem _ (List.mem_append_left _ (List.mem_of_getElem? (i := 1) rfl))) (List.mem_cons_of_mem _ (List.mem_append_left _ (List.mem_of_getElem? (i := 2) rfl))) (List.mem_cons_of_mem _ (List.mem_append_left _ (List.mem_of_getElem? (i := 3) rfl))) (List.mem_cons_of_mem _ (List.mem_append_left _ (List.mem_of_getElem? (i := 4) rfl))) (gi_sub (fun w h => (List.mem_cons_of_mem _ (List.mem_append_right _ (List.mem_append_right _ (List.mem_append_right _ (List.mem_append_left _ h)))))) zg_k222_X0_openBoth)) rfl rfl rfl (by decide +kernel) ⟨Nat.le_of_ble_eq_true rfl, Nat.le_of_ble_eq_true rfl⟩ 37 rfl rfl rfl rfl (Nat.le_of_ble_eq_true rfl) ⟨Nat.le_of_ble_eq_true rfl, Nat.le_of_ble_eq_true rfl⟩ dX11_lean_15 (fun v ty' w' hp hk' => ?_)
      obtain ⟨I4641, A4641, hI4641, hA4641, hV4641, y4638, c4639, c4640, hC, rfl, rfl⟩ := hp
      replace hF := FE.bdX hF hC
      show GW κ 4 0 0 (wX q d I4641 A4641) 18 [(0, .ref (q 0)), (1, .int z1), (2, .int z2), (3, .int z3)] [.int y4638]
      refine g_if_ne (tgt := 23) (a := y4638.toInt) hk dX11_lean_18 (by decide) rfl (fun c4642 => ?_) (fun c4642 => ?_)
      · skip
        replace hF := FE.pos hF c4642
        refine g_aload_n hk dX11_lean_23 rfl ?_
        refine gX_r0_7 hk hin11 (List.mem_cons_of_mem _ (List.mem_append_left _ (List.mem_of_getElem? (i := 0) rfl))) dX11_lean_24 ?_
        refine gX_r37_3 hk hin0 (List.mem_cons_of_mem _ (List.mem_append_left _ (List.mem_of_getElem? (i := 5) rfl))) dX11_lean_27 ?_
        refine g_callV (n := 0) hk (k249_X2_traceWay l D zt q d I4641 A4641  hV4641) (SP.same _) (fun _ h => h) (gi_V (List.mem_cons_of_mem _ (List.mem_append_left _ (List.mem_of_getElem? (i := 6) rfl))) (List.mem_cons_of_mem _ (List.mem_append_left _ (List.mem_of_getElem? (i := 7) rfl))) (List.mem_cons_of_mem _ (List.mem_append_left _ (List.mem_of_getElem? (i := 8) rfl))) (List.mem_cons_of_mem _ (List.mem_append_left _ (List.mem_of_getElem? (i := 9) rfl))) (gi_sub (fun w h => (List.mem_cons_of_mem _ (List.mem_append_right _ (List.mem_append_right _ (List.mem_append_right _ (List.mem_append_right _ (List.mem_append_left _ h))))))) zg_k249_X2_traceWay)) rfl rfl rfl (by decide +kernel) ⟨Nat.le_of_ble_eq_true rfl, Nat.le_of_ble_eq_true rfl⟩ 38 rfl rfl rfl rfl (Nat.le_of_ble_eq_true rfl) ⟨Nat.le_of_ble_eq_true rfl, Nat.le_of_ble_eq_true rfl⟩ dX11_lean_30 (fun v ty' w' hp hk' => ?_)
        obtain ⟨I4644, A4644, hI4644, hA4644, hV4644, hC, rfl, rfl⟩ := hp
        replace hF := FE.bdX hF hC
        show GW κ 4 0 0 (wX q d I4644 A4644) 33 [(0, .ref (q 0)), (1, .int z1), (2, .int z2), (3, .int z3)] []
        refine g_iload_n hk dX11_lean_33 rfl ?_
        refine g_if_ne (tgt := 50) (a := z3.toInt) hk dX11_lean_34 (by decide) rfl (fun c4645 => ?_) (fun c4645 => ?_)
        · skip
          replace hF := FE.pos hF c4645
          refine g_aload_n hk dX11_lean_50 rfl ?_
          refine gX_r0_7 hk hin11 (List.mem_cons_of_mem _ (List.mem_append_left _ (List.mem_of_getElem? (i := 0) rfl))) dX11_lean_51 ?_
          refine gX_r37_3 hk hin0 (List.mem_cons_of_mem _ (List.mem_append_left _ (List.mem_of_getElem? (i := 5) rfl))) dX11_lean_54 ?_
          refine g_callV (n := 0) hk (k253_X2_stepsInBoth l D zt q d I4644 A4644  hV4644) (SP.same _) (fun _ h => h) (gi_V (List.mem_cons_of_mem _ (List.mem_append_left _ (List.mem_of_getElem? (i := 10) rfl))) (List.mem_cons_of_mem _ (List.mem_append_left _ (List.mem_of_getElem? (i := 11) rfl))) (List.mem_cons_of_mem _ (List.mem_append_left _ (List.mem_of_getElem? (i := 12) rfl))) (List.mem_cons_of_mem _ (List.mem_append_left _ (List.mem_of_getElem? (i := 9) rfl))) (gi_sub (fun w h => (List.mem_cons_of_mem _ (List.mem_append_right _ (List.mem_append_right _ (List.mem_append_right _ (List.mem_append_right _ (List.mem_append_right _ (List.mem_append_left _ h)))))))) zg_k253_X2_stepsInBoth)) rfl rfl rfl (by decide +kernel) ⟨Nat.le_of_ble_eq_true rfl, Nat.le_of_ble_eq_true rfl⟩ 38 rfl rfl rfl rfl (Nat.le_of_ble_eq_true rfl) ⟨Nat.le_of_ble_eq_true rfl, Nat.le_of_ble_eq_true rfl⟩ dX11_lean_57 (fun v ty' w' hp hk' => ?_)
          obtain ⟨y4731, hC, rfl, rfl⟩ := hp
          replace hF := FE.lt hF (fe_s hC)
          show GW κ 4 0 0 (wX q d I4644 A4644) 60 [(0, .ref (q 0)), (1, .int z1), (2, .int z2), (3, .int z3)] [.int y4731]
          have b4732l := Int32.le_toInt y4731
          have b4732h := Int32.toInt_lt y4731
          exact g_iret hk hR rfl ⟨I4644, A4644, (show Md [28, 29, 30, 31, 32, 33, 34] I I4644 from (Md.tr (Md.tr Md.rf hI4641 rfl) hI4644 rfl)), (show Md [21, 22, 23, 24] A A4644 from (Md.tr (Md.tr Md.rf hA4641 rfl) hA4644 rfl)), hV4644, y4731, hF, rfl, rfl⟩ dX11_lean_60
        · skip
          replace hF := FE.neg hF c4645
          refine g_aload_n hk dX11_lean_37 rfl ?_
          refine gX_r0_7 hk hin11 (List.mem_cons_of_mem _ (List.mem_append_left _ (List.mem_of_getElem? (i := 0) rfl))) dX11_lean_38 ?_
          refine gX_r37_3 hk hin0 (List.mem_cons_of_mem _ (List.mem_append_left _ (List.mem_of_getElem? (i := 5) rfl))) dX11_lean_41 ?_
          refine g_callV (n := 0) hk (k254_X2_widestOfWay l D zt q d I4644 A4644  hV4644) (SP.same _) (fun _ h => h) (gi_V (List.mem_cons_of_mem _ (List.mem_append_left _ (List.mem_of_getElem? (i := 13) rfl))) (List.mem_cons_of_mem _ (List.mem_append_left _ (List.mem_of_getElem? (i := 14) rfl))) (List.mem_cons_of_mem _ (List.mem_append_left _ (List.mem_of_getElem? (i := 15) rfl))) (List.mem_cons_of_mem _ (List.mem_append_left _ (List.mem_of_getElem? (i := 9) rfl))) (gi_sub (fun w h => (List.mem_cons_of_mem _ (List.mem_append_right _ (List.mem_append_right _ (List.mem_append_right _ (List.mem_append_right _ (List.mem_append_right _ (List.mem_append_right _ (List.mem_append_left _ h))))))))) zg_k254_X2_widestOfWay)) rfl rfl rfl (by decide +kernel) ⟨Nat.le_of_ble_eq_true rfl, Nat.le_of_ble_eq_true rfl⟩ 38 rfl rfl rfl rfl (Nat.le_of_ble_eq_true rfl) ⟨Nat.le_of_ble_eq_true rfl, Nat.le_of_ble_eq_true rfl⟩ dX11_lean_44 (fun v ty' w' hp hk' => ?_)
          obtain ⟨y4806, c4807, hC, rfl, rfl⟩ := hp
          replace hF := FE.lt hF (fe_s hC)
          show GW κ 4 0 0 (wX q d I4644 A4644) 47 [(0, .ref (q 0)), (1, .int z1), (2, .int z2), (3, .int z3)] [.int y4806]
          refine g_goto (tgt := 60) hk dX11_lean_47 (by decide) ?_
          have b4808l := Int32.le_toInt y4806
          have b4808h := Int32.toInt_lt y4806
          exact g_iret hk hR rfl ⟨I4644, A4644, (show Md [28, 29, 30, 31, 32, 33, 34] I I4644 from (Md.tr (Md.tr Md.rf hI4641 rfl) hI4644 rfl)), (show Md [21, 22, 23, 24] A A4644 from (Md.tr (Md.tr Md.rf hA4641 rfl) hA4644 rfl)), hV4644, y4806, hF, rfl, rfl⟩ dX11_lean_60
      · skip
        replace hF := FE.neg hF c4642
        refine g_iconst (v := (-1)) hk dX11_lean_21 (by decide) ?_
        exact g_iret hk hR rfl ⟨I4641, A4641, (show Md [28, 29, 30, 31, 32, 33, 34] I I4641 from (Md.tr Md.rf hI4641 rfl)), (show Md [21, 22, 23, 24] A A4641 from (Md.tr Md.rf hA4641 rfl)), hV4641, (-1), hF, rfl, rfl⟩ dX11_lean_22
