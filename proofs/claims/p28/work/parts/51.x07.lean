noncomputable def fX11_slack (I : Nat → Int32) (A : Nat → Nat → Int32) (z1 : Int32) : Int32 × (Nat → Int32) × (Nat → Nat → Int32) := if fX4_has_2 I A z1 = 0 then ((-1), I, A) else f_bdX (fX1_slackSum I A z1) fun y8756 I8757 A8757 => (y8756, I8757, A8757)
def wo_k287_X11_slack : List Cond := [Cond.fieldLink RX11 35 "WarpDesk" "queries" "LWarpDesk$Queries;", Cond.methodLink RX11 251 yX4_has, Cond.instanceMethod yX4_has, Cond.selects RX4 yX4_has yX4_has, Cond.initialized RX4, Cond.fieldLink RX11 74 "WarpDesk" "finder" "LWarpDesk$Finder;", Cond.methodLink RX11 317 yX1_slackSum, Cond.instanceMethod yX1_slackSum, Cond.selects RX1 yX1_slackSum yX1_slackSum, Cond.initialized RX1]
def wz_k287_X11_slack : List Cond := .code yX11_slack cX11_slack 2 (some .int) :: (wo_k287_X11_slack ++ (wsX110 ++ (wz_k155_X4_has ++ (wz_k288_X1_slackSum ++ ([] : List Cond)))))
theorem zg_k287_X11_slack : ∀ w ∈ wz_k287_X11_slack, goodWord w = true := zg_cons rfl (zg_app (by decide +kernel) (zg_app zgU_wsX110 (zg_app zg_k155_X4_has (zg_app zg_k288_X1_slackSum zg_nil))))
theorem zi_k287_X11_slack : ∀ w ∈ wz_k287_X11_slack, w ∈ lw_tbl := zi_cons zw_1230 (zi_app (zi_cons zw_490 (zi_cons zw_1086 (zi_cons zw_747 (zi_cons zw_748 (zi_cons zw_108 (zi_cons zw_495 (zi_cons zw_1231 (zi_cons zw_1232 (zi_cons zw_1233 (zi_cons zw_113 zi_nil)))))))))) (zi_app inX11 (zi_app zi_k155_X4_has (zi_app zi_k288_X1_slackSum zi_nil))))
set_option maxHeartbeats 4000000 in
set_option maxRecDepth 100000 in
theorem k287_X11_slack (l : Launch) (D : va_G) (zt : Nat × Nat × Nat × (Nat → Nat) × (Nat → Nat)) (q : Nat → Nat) (d : Nat → ClassId) (I : Nat → Int32) (A : Nat → Nat → Int32) (z1 : Int32) (hIv : IvX I A) : GM l D zt (tyX d) yX11_slack wz_k287_X11_slack ({ frames := 6, cells := 0, slots := 0, locals := 134 } : Room) [.ref (q 0), .int z1] (wX q d I A) (fun v _ w' => ∃ (I' : Nat → Int32) (A' : Nat → Nat → Int32), Md [28, 30, 31, 32, 33, 34] I I' ∧ Md [21, 22, 23] A A' ∧ IvX I' A' ∧ ∃ y0 : Int32, FE (fX11_slack I A z1) (y0, I', A') ∧ v = some (.int y0) ∧ w' = wX q d I' A') 0 0 := by
  refine GM.of (cc := cX11_slack) (maxL := 2) (ret := (some .int)) (own := RX11) (lv := [(0, .ref (q 0)), (1, .int z1)]) (by decide) rfl rfl (Nat.le_of_ble_eq_true rfl) rfl (fun κ sz hk hR hN => ?_)
  have hin11 : ∀ w ∈ u_ws RX11 TX11 10, w ∈ wz_k287_X11_slack := fun w h => (List.mem_cons_of_mem _ (List.mem_append_right _ (List.mem_append_left _ h)))
  have hF : FE (fX11_slack I A z1) (fX11_slack I A z1) := FE.rf
  refine g_aload_n hk dX11_slack_0 rfl ?_
  refine gX_r0_3 hk hin11 (List.mem_cons_of_mem _ (List.mem_append_left _ (List.mem_of_getElem? (i := 0) rfl))) dX11_slack_1 ?_
  refine g_iload_n hk dX11_slack_4 rfl ?_
  refine g_callV (n := 1) hk (k168_X4_has l D zt q d I A z1 hIv) (SP.same _) (fun _ h => h) (gi_V (List.mem_cons_of_mem _ (List.mem_append_left _ (List.mem_of_getElem? (i := 1) rfl))) (List.mem_cons_of_mem _ (List.mem_append_left _ (List.mem_of_getElem? (i := 2) rfl))) (List.mem_cons_of_mem _ (List.mem_append_left _ (List.mem_of_getElem? (i := 3) rfl))) (List.mem_cons_of_mem _ (List.mem_append_left _ (List.mem_of_getElem? (i := 4) rfl))) (gi_sub (fun w h => (List.mem_cons_of_mem _ (List.mem_append_right _ (List.mem_append_right _ (List.mem_append_left _ h))))) zg_k155_X4_has)) rfl rfl rfl (by decide +kernel) ⟨Nat.le_of_ble_eq_true rfl, Nat.le_of_ble_eq_true rfl⟩ 15 rfl rfl rfl rfl (Nat.le_of_ble_eq_true rfl) ⟨Nat.le_of_ble_eq_true rfl, Nat.le_of_ble_eq_true rfl⟩ dX11_slack_5 (fun v ty' w' hp hk' => ?_)
  rcases hp with ⟨hC, rfl, rfl⟩ | ⟨c8388, c8389, c8390, c8391, hC, rfl, rfl⟩
  · skip
    replace hF := FE.pos hF hC
    show GW κ 2 0 0 (wX q d I A) 8 [(0, .ref (q 0)), (1, .int z1)] [.int 0]
    refine g_if_eq (tgt := 22) (a := 0) hk dX11_slack_8 (by decide) rfl (fun _ => ?_) (fun z9 => absurd (show (0 : Int) = (0 : Int) from by decide) z9)
    refine g_iconst (v := (-1)) hk dX11_slack_22 (by decide) ?_
    exact g_iret hk hR rfl ⟨I, A, (show Md [28, 30, 31, 32, 33, 34] I I from Md.rf), (show Md [21, 22, 23] A A from Md.rf), hIv, (-1), hF, rfl, rfl⟩ dX11_slack_23
  · skip
    replace hF := FE.neg hF (fe_ne hC (by decide))
    show GW κ 2 0 0 (wX q d I A) 8 [(0, .ref (q 0)), (1, .int z1)] [.int 1]
    refine g_if_eq (tgt := 22) (a := 1) hk dX11_slack_8 (by decide) rfl (fun z9 => absurd z9 (show ¬ ((1 : Int) = (0 : Int)) from by decide)) (fun _ => ?_)
    refine g_aload_n hk dX11_slack_11 rfl ?_
    refine gX_r0_8 hk hin11 (List.mem_cons_of_mem _ (List.mem_append_left _ (List.mem_of_getElem? (i := 5) rfl))) dX11_slack_12 ?_
    refine g_iload_n hk dX11_slack_15 rfl ?_
    refine g_callV (n := 1) hk (k288_X1_slackSum l D zt q d I A z1 hIv) (SP.same _) (fun _ h => h) (gi_V (List.mem_cons_of_mem _ (List.mem_append_left _ (List.mem_of_getElem? (i := 6) rfl))) (List.mem_cons_of_mem _ (List.mem_append_left _ (List.mem_of_getElem? (i := 7) rfl))) (List.mem_cons_of_mem _ (List.mem_append_left _ (List.mem_of_getElem? (i := 8) rfl))) (List.mem_cons_of_mem _ (List.mem_append_left _ (List.mem_of_getElem? (i := 9) rfl))) (gi_sub (fun w h => (List.mem_cons_of_mem _ (List.mem_append_right _ (List.mem_append_right _ (List.mem_append_right _ (List.mem_append_left _ h)))))) zg_k288_X1_slackSum)) rfl rfl rfl (by decide +kernel) ⟨Nat.le_of_ble_eq_true rfl, Nat.le_of_ble_eq_true rfl⟩ 43 rfl rfl rfl rfl (Nat.le_of_ble_eq_true rfl) ⟨Nat.le_of_ble_eq_true rfl, Nat.le_of_ble_eq_true rfl⟩ dX11_slack_16 (fun v ty' w' hp hk' => ?_)
    obtain ⟨I8757, A8757, hI8757, hA8757, hV8757, y8756, hC, rfl, rfl⟩ := hp
    replace hF := FE.bdX hF hC
    show GW κ 2 0 0 (wX q d I8757 A8757) 19 [(0, .ref (q 0)), (1, .int z1)] [.int y8756]
    refine g_goto (tgt := 23) hk dX11_slack_19 (by decide) ?_
    have b8758l := Int32.le_toInt y8756
    have b8758h := Int32.toInt_lt y8756
    exact g_iret hk hR rfl ⟨I8757, A8757, (show Md [28, 30, 31, 32, 33, 34] I I8757 from (Md.tr Md.rf hI8757 rfl)), (show Md [21, 22, 23] A A8757 from (Md.tr Md.rf hA8757 rfl)), hV8757, y8756, hF, rfl, rfl⟩ dX11_slack_23
noncomputable def bX1_turnCount_9 (I : Nat → Int32) (A : Nat → Nat → Int32) : (Int32 → Int32 → Int32 → Int32 → (Int32)) → Int32 → Int32 → Int32 → Int32 → (Int32) := fun kk8878 x8767 x8768 x8769 x8770 => if 160 ≤ x8767.toInt then x8770 else if 0 ≤ (A 26 x8767.toNatClampNeg).toInt then if x8769.toInt < 0 then f_lt (x8767 + Int32.ofInt 1) fun y8886 => kk8878 y8886 x8768 (A 26 x8767.toNatClampNeg) x8770 else if x8769.toInt ≤ (A 26 x8767.toNatClampNeg).toInt then if (A 26 x8767.toNatClampNeg).toInt ≤ x8769.toInt then f_lt (x8767 + Int32.ofInt 1) fun y8889 => kk8878 y8889 x8768 (A 26 x8767.toNatClampNeg) x8770 else if x8768.toInt = 0 then f_lt (x8770 + (0 : Int32)) fun y8892 => f_lt (x8767 + Int32.ofInt 1) fun y8893 => kk8878 y8893 0 (A 26 x8767.toNatClampNeg) y8892 else f_lt (x8770 + (1 : Int32)) fun y8896 => f_lt (x8767 + Int32.ofInt 1) fun y8897 => kk8878 y8897 0 (A 26 x8767.toNatClampNeg) y8896 else f_lt (x8767 + Int32.ofInt 1) fun y8899 => kk8878 y8899 1 (A 26 x8767.toNatClampNeg) x8770 else f_lt (x8767 + Int32.ofInt 1) fun y8901 => kk8878 y8901 x8768 x8769 x8770
noncomputable def fX1_turnCount (I : Nat → Int32) (A : Nat → Nat → Int32) : Int32 := itr_iiii (0 : Int32) (bX1_turnCount_9 I A) FU 0 0 (-1) 0
def wz_k290_X1_turnCount : List Cond := .code yX1_turnCount cX1_turnCount 6 (some .int) :: (wo_k271_X1_leastScanned ++ (wsX10 ++ ([] : List Cond)))
theorem zg_k290_X1_turnCount : ∀ w ∈ wz_k290_X1_turnCount, goodWord w = true := zg_cons rfl (zg_app (by decide +kernel) (zg_app zgU_wsX10 zg_nil))
theorem zi_k290_X1_turnCount : ∀ w ∈ wz_k290_X1_turnCount, w ∈ lw_tbl := zi_cons zw_1246 (zi_app (zi_cons zw_411 zi_nil) (zi_app inX1 zi_nil))
set_option maxHeartbeats 4000000 in
set_option maxRecDepth 100000 in
theorem k290_X1_turnCount (l : Launch) (D : va_G) (zt : Nat × Nat × Nat × (Nat → Nat) × (Nat → Nat)) (q : Nat → Nat) (d : Nat → ClassId) (I : Nat → Int32) (A : Nat → Nat → Int32) (hIv : IvX I A) : GM l D zt (tyX d) yX1_turnCount wz_k290_X1_turnCount ({ frames := 0, cells := 0, slots := 0, locals := 0 } : Room) [.ref (q 43)] (wX q d I A) (fun v _ w' => ∃ y0 : Int32, FE (fX1_turnCount I A) y0 ∧ v = some (.int y0) ∧ w' = wX q d I A) 0 0 := by
  refine GM.of (cc := cX1_turnCount) (maxL := 6) (ret := (some .int)) (own := RX1) (lv := [(0, .ref (q 43))]) (by decide) rfl rfl (Nat.le_of_ble_eq_true rfl) rfl (fun κ sz hk hR hN => ?_)
  have hin1 : ∀ w ∈ u_ws RX1 TX1 11, w ∈ wz_k290_X1_turnCount := fun w h => (List.mem_cons_of_mem _ (List.mem_append_right _ (List.mem_append_left _ h)))
  have hF : FE (fX1_turnCount I A) (fX1_turnCount I A) := FE.rf
  refine g_iconst (v := 0) hk dX1_turnCount_0 (by decide) ?_
  refine g_istore_n (lv' := [(1, .int 0), (0, .ref (q 43))]) hk dX1_turnCount_1 (by decide) rfl ?_
  refine g_iconst (v := (-1)) hk dX1_turnCount_2 (by decide) ?_
  refine g_istore_n (lv' := [(2, .int (-1)), (1, .int 0), (0, .ref (q 43))]) hk dX1_turnCount_3 (by decide) rfl ?_
  refine g_iconst (v := 0) hk dX1_turnCount_4 (by decide) ?_
  refine g_istore_n (lv' := [(3, .int 0), (2, .int (-1)), (1, .int 0), (0, .ref (q 43))]) hk dX1_turnCount_5 (by decide) rfl ?_
  refine g_iconst (v := 0) hk dX1_turnCount_6 (by decide) ?_
  refine g_istore (lv' := [(4, .int 0), (3, .int 0), (2, .int (-1)), (1, .int 0), (0, .ref (q 43))]) hk dX1_turnCount_7 (by decide) rfl ?_
  have lp8875 : ∀ (n8876 : Nat) (x8767 : Int32) (x8768 : Int32) (x8769 : Int32) (x8770 : Int32), (0 ≤ x8767.toInt) → (x8767.toInt ≤ 160) → (0 ≤ x8768.toInt) → (x8768.toInt ≤ 1) → ((-1) ≤ x8769.toInt) → (161 - x8767.toInt < (n8876 : Int)) → (0 < n8876) → (FE (fX1_turnCount I A) (itr_iiii (0 : Int32) (bX1_turnCount_9 I A) n8876 x8767 x8768 x8769 x8770)) → GW κ 6 0 0 (wX q d I A) 9 [(4, .int x8767), (3, .int x8768), (2, .int x8769), (1, .int x8770), (0, .ref (q 43))] [] := by
    intro n8876
    induction n8876 with
    | zero =>
      intro x8767 x8768 x8769 x8770 h8870 h8871 h8872 h8873 h8874 m8877 m8877z hF
      exact absurd m8877z (Nat.lt_irrefl 0)
    | succ n8876 ih8879 =>
      intro x8767 x8768 x8769 x8770 h8870 h8871 h8872 h8873 h8874 m8877 m8877z hF
      replace hF := FE.itr_iiii hF
      refine g_iload hk dX1_turnCount_9 rfl ?_
      refine g_sipush (v := 160) hk dX1_turnCount_11 (by decide) ?_
      refine g_icmp_ge (tgt := 82) (a := x8767.toInt) (b := 160) hk dX1_turnCount_14 (by decide) rfl rfl (fun c8880 => ?_) (fun c8880 => ?_)
      · skip
        replace hF := FE.pos hF c8880
        refine g_iload_n hk dX1_turnCount_82 rfl ?_
        have b8881l := Int32.le_toInt x8770
        have b8881h := Int32.toInt_lt x8770
        exact g_iret hk hR rfl ⟨x8770, hF, rfl, rfl⟩ dX1_turnCount_83
      · skip
        replace hF := FE.neg hF c8880
        refine g_aload_n hk dX1_turnCount_17 rfl ?_
        refine gX_r43_6 hk hin1 (List.mem_cons_of_mem _ (List.mem_append_left _ (List.mem_of_getElem? (i := 0) rfl))) dX1_turnCount_18 ?_
        refine g_iload hk dX1_turnCount_21 rfl ?_
        refine lX_26 (v := (A 26 x8767.toNatClampNeg)) hk (vp_in_iff.mpr ⟨by omega, by omega⟩) rfl dX1_turnCount_23 ?_
        refine g_istore (lv' := [(5, .int (A 26 x8767.toNatClampNeg)), (4, .int x8767), (3, .int x8768), (2, .int x8769), (1, .int x8770), (0, .ref (q 43))]) hk dX1_turnCount_24 (by decide) rfl ?_
        refine g_iload hk dX1_turnCount_26 rfl ?_
        have b8882l := Int32.le_toInt (A 26 x8767.toNatClampNeg)
        have b8882h := Int32.toInt_lt (A 26 x8767.toNatClampNeg)
        refine g_if_ge (tgt := 34) (a := (A 26 x8767.toNatClampNeg).toInt) hk dX1_turnCount_28 (by decide) rfl (fun c8883 => ?_) (fun c8883 => ?_)
        · skip
          replace hF := FE.pos hF c8883
          refine g_iload_n hk dX1_turnCount_34 rfl ?_
          have b8884l := Int32.le_toInt x8769
          have b8884h := Int32.toInt_lt x8769
          refine g_if_lt (tgt := 49) (a := x8769.toInt) hk dX1_turnCount_35 (by decide) rfl (fun c8885 => ?_) (fun c8885 => ?_)
          · skip
            replace hF := FE.pos hF c8885
            refine g_iload_n hk dX1_turnCount_49 rfl ?_
            refine g_if_lt (tgt := 73) (a := x8769.toInt) hk dX1_turnCount_50 (by decide) rfl (fun _ => ?_) (fun z9 => absurd (show x8769.toInt < 0 from by omega) z9)
            refine g_iload hk dX1_turnCount_73 rfl ?_
            refine g_istore_n (lv' := [(2, .int (A 26 x8767.toNatClampNeg)), (5, .int (A 26 x8767.toNatClampNeg)), (4, .int x8767), (3, .int x8768), (1, .int x8770), (0, .ref (q 43))]) hk dX1_turnCount_75 (by decide) rfl ?_
            obtain ⟨y8886, ey8886⟩ : ∃ y : Int32, y = x8767 + Int32.ofInt 1 := ⟨_, rfl⟩
            replace hF := FE.lt hF ey8886
            have hy8886 : y8886.toInt = x8767.toInt + 1 := i32_add ey8886 rfl (by decide) (by omega) (by omega)
            refine g_iinc (v := y8886) (lv' := [(4, .int y8886), (2, .int (A 26 x8767.toNatClampNeg)), (5, .int (A 26 x8767.toNatClampNeg)), (3, .int x8768), (1, .int x8770), (0, .ref (q 43))]) hk 2 dX1_turnCount_76 rfl ey8886.symm (by decide) rfl ?_
            refine g_goto (tgt := 9) hk dX1_turnCount_79 (by decide) ?_
            exact g_lv (List.forall_mem_cons.mpr ⟨List.mem_of_getElem? (i := 0) rfl, (List.forall_mem_cons.mpr ⟨List.mem_of_getElem? (i := 3) rfl, (List.forall_mem_cons.mpr ⟨List.mem_of_getElem? (i := 1) rfl, (List.forall_mem_cons.mpr ⟨List.mem_of_getElem? (i := 4) rfl, (List.forall_mem_cons.mpr ⟨List.mem_of_getElem? (i := 5) rfl, (fun _ h => absurd h List.not_mem_nil)⟩)⟩)⟩)⟩)⟩) (ih8879 y8886 x8768 (A 26 x8767.toNatClampNeg) x8770 (by omega) (by omega) (by omega) (by omega) (by omega) (by omega) (by omega) hF)
          · skip
            replace hF := FE.neg hF c8885
            refine g_iload hk dX1_turnCount_38 rfl ?_
            refine g_iload_n hk dX1_turnCount_40 rfl ?_
            refine g_icmp_ge (tgt := 49) (a := (A 26 x8767.toNatClampNeg).toInt) (b := x8769.toInt) hk dX1_turnCount_41 (by decide) rfl rfl (fun c8887 => ?_) (fun c8887 => ?_)
            · skip
              replace hF := FE.pos hF c8887
              refine g_iload_n hk dX1_turnCount_49 rfl ?_
              refine g_if_lt (tgt := 73) (a := x8769.toInt) hk dX1_turnCount_50 (by decide) rfl (fun z9 => absurd z9 (show ¬ (x8769.toInt < 0) from by omega)) (fun _ => ?_)
              refine g_iload hk dX1_turnCount_53 rfl ?_
              refine g_iload_n hk dX1_turnCount_55 rfl ?_
              refine g_icmp_le (tgt := 73) (a := (A 26 x8767.toNatClampNeg).toInt) (b := x8769.toInt) hk dX1_turnCount_56 (by decide) rfl rfl (fun c8888 => ?_) (fun c8888 => ?_)
              · skip
                replace hF := FE.pos hF c8888
                refine g_iload hk dX1_turnCount_73 rfl ?_
                refine g_istore_n (lv' := [(2, .int (A 26 x8767.toNatClampNeg)), (5, .int (A 26 x8767.toNatClampNeg)), (4, .int x8767), (3, .int x8768), (1, .int x8770), (0, .ref (q 43))]) hk dX1_turnCount_75 (by decide) rfl ?_
                obtain ⟨y8889, ey8889⟩ : ∃ y : Int32, y = x8767 + Int32.ofInt 1 := ⟨_, rfl⟩
                replace hF := FE.lt hF ey8889
                have hy8889 : y8889.toInt = x8767.toInt + 1 := i32_add ey8889 rfl (by decide) (by omega) (by omega)
                refine g_iinc (v := y8889) (lv' := [(4, .int y8889), (2, .int (A 26 x8767.toNatClampNeg)), (5, .int (A 26 x8767.toNatClampNeg)), (3, .int x8768), (1, .int x8770), (0, .ref (q 43))]) hk 2 dX1_turnCount_76 rfl ey8889.symm (by decide) rfl ?_
                refine g_goto (tgt := 9) hk dX1_turnCount_79 (by decide) ?_
                exact g_lv (List.forall_mem_cons.mpr ⟨List.mem_of_getElem? (i := 0) rfl, (List.forall_mem_cons.mpr ⟨List.mem_of_getElem? (i := 3) rfl, (List.forall_mem_cons.mpr ⟨List.mem_of_getElem? (i := 1) rfl, (List.forall_mem_cons.mpr ⟨List.mem_of_getElem? (i := 4) rfl, (List.forall_mem_cons.mpr ⟨List.mem_of_getElem? (i := 5) rfl, (fun _ h => absurd h List.not_mem_nil)⟩)⟩)⟩)⟩)⟩) (ih8879 y8889 x8768 (A 26 x8767.toNatClampNeg) x8770 (by omega) (by omega) (by omega) (by omega) (by omega) (by omega) (by omega) hF)
              · skip
                replace hF := FE.neg hF c8888
                refine g_iload_n hk dX1_turnCount_59 rfl ?_
                refine g_iload_n hk dX1_turnCount_60 rfl ?_
                refine g_if_eq (tgt := 68) (a := x8768.toInt) hk dX1_turnCount_61 (by decide) rfl (fun c8890 => ?_) (fun c8890 => ?_)
                · skip
                  replace hF := FE.pos hF c8890
                  refine g_iconst (v := 0) hk dX1_turnCount_68 (by decide) ?_
                  have b8891l := Int32.le_toInt x8770
                  have b8891h := Int32.toInt_lt x8770
                  refine g_iadd hk dX1_turnCount_69 ?_
                  refine g_topi (fun y8892 ey8892 => ?_)
                  replace hF := FE.lt hF ey8892
                  have hy8892 : y8892.toInt = x8770.toInt + 0 := i32_add ey8892 rfl rfl (by omega) (by omega)
                  refine g_istore_n (lv' := [(1, .int y8892), (5, .int (A 26 x8767.toNatClampNeg)), (4, .int x8767), (3, .int x8768), (2, .int x8769), (0, .ref (q 43))]) hk dX1_turnCount_70 (by decide) rfl ?_
                  refine g_iconst (v := 0) hk dX1_turnCount_71 (by decide) ?_
                  refine g_istore_n (lv' := [(3, .int 0), (1, .int y8892), (5, .int (A 26 x8767.toNatClampNeg)), (4, .int x8767), (2, .int x8769), (0, .ref (q 43))]) hk dX1_turnCount_72 (by decide) rfl ?_
                  refine g_iload hk dX1_turnCount_73 rfl ?_
                  refine g_istore_n (lv' := [(2, .int (A 26 x8767.toNatClampNeg)), (3, .int 0), (1, .int y8892), (5, .int (A 26 x8767.toNatClampNeg)), (4, .int x8767), (0, .ref (q 43))]) hk dX1_turnCount_75 (by decide) rfl ?_
                  obtain ⟨y8893, ey8893⟩ : ∃ y : Int32, y = x8767 + Int32.ofInt 1 := ⟨_, rfl⟩
                  replace hF := FE.lt hF ey8893
                  have hy8893 : y8893.toInt = x8767.toInt + 1 := i32_add ey8893 rfl (by decide) (by omega) (by omega)
                  refine g_iinc (v := y8893) (lv' := [(4, .int y8893), (2, .int (A 26 x8767.toNatClampNeg)), (3, .int 0), (1, .int y8892), (5, .int (A 26 x8767.toNatClampNeg)), (0, .ref (q 43))]) hk 4 dX1_turnCount_76 rfl ey8893.symm (by decide) rfl ?_
                  refine g_goto (tgt := 9) hk dX1_turnCount_79 (by decide) ?_
                  have k8894 : (0 : Int32).toInt = 0 := rfl
                  exact g_lv (List.forall_mem_cons.mpr ⟨List.mem_of_getElem? (i := 0) rfl, (List.forall_mem_cons.mpr ⟨List.mem_of_getElem? (i := 2) rfl, (List.forall_mem_cons.mpr ⟨List.mem_of_getElem? (i := 1) rfl, (List.forall_mem_cons.mpr ⟨List.mem_of_getElem? (i := 3) rfl, (List.forall_mem_cons.mpr ⟨List.mem_of_getElem? (i := 5) rfl, (fun _ h => absurd h List.not_mem_nil)⟩)⟩)⟩)⟩)⟩) (ih8879 y8893 0 (A 26 x8767.toNatClampNeg) y8892 (by omega) (by omega) (by omega) (by omega) (by omega) (by omega) (by omega) hF)
                · skip
                  replace hF := FE.neg hF c8890
                  refine g_iconst (v := 1) hk dX1_turnCount_64 (by decide) ?_
                  refine g_goto (tgt := 69) hk dX1_turnCount_65 (by decide) ?_
                  have b8895l := Int32.le_toInt x8770
                  have b8895h := Int32.toInt_lt x8770
                  refine g_iadd hk dX1_turnCount_69 ?_
                  refine g_topi (fun y8896 ey8896 => ?_)
                  replace hF := FE.lt hF ey8896
                  refine g_istore_n (lv' := [(1, .int y8896), (5, .int (A 26 x8767.toNatClampNeg)), (4, .int x8767), (3, .int x8768), (2, .int x8769), (0, .ref (q 43))]) hk dX1_turnCount_70 (by decide) rfl ?_
                  refine g_iconst (v := 0) hk dX1_turnCount_71 (by decide) ?_
                  refine g_istore_n (lv' := [(3, .int 0), (1, .int y8896), (5, .int (A 26 x8767.toNatClampNeg)), (4, .int x8767), (2, .int x8769), (0, .ref (q 43))]) hk dX1_turnCount_72 (by decide) rfl ?_
                  refine g_iload hk dX1_turnCount_73 rfl ?_
                  refine g_istore_n (lv' := [(2, .int (A 26 x8767.toNatClampNeg)), (3, .int 0), (1, .int y8896), (5, .int (A 26 x8767.toNatClampNeg)), (4, .int x8767), (0, .ref (q 43))]) hk dX1_turnCount_75 (by decide) rfl ?_
                  obtain ⟨y8897, ey8897⟩ : ∃ y : Int32, y = x8767 + Int32.ofInt 1 := ⟨_, rfl⟩
                  replace hF := FE.lt hF ey8897
                  have hy8897 : y8897.toInt = x8767.toInt + 1 := i32_add ey8897 rfl (by decide) (by omega) (by omega)
                  refine g_iinc (v := y8897) (lv' := [(4, .int y8897), (2, .int (A 26 x8767.toNatClampNeg)), (3, .int 0), (1, .int y8896), (5, .int (A 26 x8767.toNatClampNeg)), (0, .ref (q 43))]) hk 4 dX1_turnCount_76 rfl ey8897.symm (by decide) rfl ?_
                  refine g_goto (tgt := 9) hk dX1_turnCount_79 (by decide) ?_
                  have k8898 : (0 : Int32).toInt = 0 := rfl
                  exact g_lv (List.forall_mem_cons.mpr ⟨List.mem_of_getElem? (i := 0) rfl, (List.forall_mem_cons.mpr ⟨List.mem_of_getElem? (i := 2) rfl, (List.forall_mem_cons.mpr ⟨List.mem_of_getElem? (i := 1) rfl, (List.forall_mem_cons.mpr ⟨List.mem_of_getElem? (i := 3) rfl, (List.forall_mem_cons.mpr ⟨List.mem_of_getElem? (i := 5) rfl, (fun _ h => absurd h List.not_mem_nil)⟩)⟩)⟩)⟩)⟩) (ih8879 y8897 0 (A 26 x8767.toNatClampNeg) y8896 (by omega) (by omega) (by omega) (by omega) (by omega) (by omega) (by omega) hF)
            · skip
              replace hF := FE.neg hF c8887
              refine g_iconst (v := 1) hk dX1_turnCount_44 (by decide) ?_
              refine g_istore_n (lv' := [(3, .int 1), (5, .int (A 26 x8767.toNatClampNeg)), (4, .int x8767), (2, .int x8769), (1, .int x8770), (0, .ref (q 43))]) hk dX1_turnCount_45 (by decide) rfl ?_
              refine g_goto (tgt := 73) hk dX1_turnCount_46 (by decide) ?_
              refine g_iload hk dX1_turnCount_73 rfl ?_
              refine g_istore_n (lv' := [(2, .int (A 26 x8767.toNatClampNeg)), (3, .int 1), (5, .int (A 26 x8767.toNatClampNeg)), (4, .int x8767), (1, .int x8770), (0, .ref (q 43))]) hk dX1_turnCount_75 (by decide) rfl ?_
              obtain ⟨y8899, ey8899⟩ : ∃ y : Int32, y = x8767 + Int32.ofInt 1 := ⟨_, rfl⟩
              replace hF := FE.lt hF ey8899
              have hy8899 : y8899.toInt = x8767.toInt + 1 := i32_add ey8899 rfl (by decide) (by omega) (by omega)
              refine g_iinc (v := y8899) (lv' := [(4, .int y8899), (2, .int (A 26 x8767.toNatClampNeg)), (3, .int 1), (5, .int (A 26 x8767.toNatClampNeg)), (1, .int x8770), (0, .ref (q 43))]) hk 3 dX1_turnCount_76 rfl ey8899.symm (by decide) rfl ?_
              refine g_goto (tgt := 9) hk dX1_turnCount_79 (by decide) ?_
              have k8900 : (1 : Int32).toInt = 1 := rfl
              exact g_lv (List.forall_mem_cons.mpr ⟨List.mem_of_getElem? (i := 0) rfl, (List.forall_mem_cons.mpr ⟨List.mem_of_getElem? (i := 2) rfl, (List.forall_mem_cons.mpr ⟨List.mem_of_getElem? (i := 1) rfl, (List.forall_mem_cons.mpr ⟨List.mem_of_getElem? (i := 4) rfl, (List.forall_mem_cons.mpr ⟨List.mem_of_getElem? (i := 5) rfl, (fun _ h => absurd h List.not_mem_nil)⟩)⟩)⟩)⟩)⟩) (ih8879 y8899 1 (A 26 x8767.toNatClampNeg) x8770 (by omega) (by omega) (by omega) (by omega) (by omega) (by omega) (by omega) hF)
        · skip
          replace hF := FE.neg hF c8883
          refine g_goto (tgt := 76) hk dX1_turnCount_31 (by decide) ?_
          obtain ⟨y8901, ey8901⟩ : ∃ y : Int32, y = x8767 + Int32.ofInt 1 := ⟨_, rfl⟩
          replace hF := FE.lt hF ey8901
          have hy8901 : y8901.toInt = x8767.toInt + 1 := i32_add ey8901 rfl (by decide) (by omega) (by omega)
          refine g_iinc (v := y8901) (lv' := [(4, .int y8901), (5, .int (A 26 x8767.toNatClampNeg)), (3, .int x8768), (2, .int x8769), (1, .int x8770), (0, .ref (q 43))]) hk 1 dX1_turnCount_76 rfl ey8901.symm (by decide) rfl ?_
          refine g_goto (tgt := 9) hk dX1_turnCount_79 (by decide) ?_
          exact g_lv (List.forall_mem_cons.mpr ⟨List.mem_of_getElem? (i := 0) rfl, (List.forall_mem_cons.mpr ⟨List.mem_of_getElem? (i := 2) rfl, (List.forall_mem_cons.mpr ⟨List.mem_of_getElem? (i := 3) rfl, (List.forall_mem_cons.mpr ⟨List.mem_of_getElem? (i := 4) rfl, (List.forall_mem_cons.mpr ⟨List.mem_of_getElem? (i := 5) rfl, (fun _ h => absurd h List.not_mem_nil)⟩)⟩)⟩)⟩)⟩) (ih8879 y8901 x8768 x8769 x8770 (by omega) (by omega) (by omega) (by omega) (by omega) (by omega) (by omega) hF)
  have k8903 : (0 : Int32).toInt = 0 := rfl
  have k8904 : ((-1) : Int32).toInt = (-1) := rfl
  have n8902a : 161 - 0 < (FU : Int) := by have := FU_eq; omega
  have n8902b : 0 < FU := by have := FU_eq; omega
  exact lp8875 FU 0 0 (-1) 0 (by omega) (by omega) (by omega) (by omega) (by omega) n8902a n8902b hF
noncomputable def fX11_turns (I : Nat → Int32) (A : Nat → Nat → Int32) (z1 : Int32) : Int32 × (Nat → Int32) × (Nat → Nat → Int32) := if fX4_has_2 I A z1 = 0 then ((-1), I, A) else f_bdX (fX1_scan I A z1) fun _ I8766 A8766 => f_lt (fX1_turnCount I8766 A8766) fun y8905 => (y8905, I8766, A8766)
def wo_k289_X11_turns : List Cond := [Cond.fieldLink RX11 35 "WarpDesk" "queries" "LWarpDesk$Queries;", Cond.methodLink RX11 251 yX4_has, Cond.instanceMethod yX4_has, Cond.selects RX4 yX4_has yX4_has, Cond.initialized RX4, Cond.fieldLink RX11 74 "WarpDesk" "finder" "LWarpDesk$Finder;", Cond.methodLink RX11 305 yX1_scan, Cond.instanceMethod yX1_scan, Cond.selects RX1 yX1_scan yX1_scan, Cond.initialized RX1, Cond.methodLink RX11 320 yX1_turnCount, Cond.instanceMethod yX1_turnCount, Cond.selects RX1 yX1_turnCount yX1_turnCount]
def wz_k289_X11_turns : List Cond := .code yX11_turns cX11_turns 2 (some .int) :: (wo_k289_X11_turns ++ (wsX110 ++ (wz_k155_X4_has ++ (wz_k270_X1_scan ++ (wz_k290_X1_turnCount ++ ([] : List Cond))))))
theorem zg_k289_X11_turns : ∀ w ∈ wz_k289_X11_turns, goodWord w = true := zg_cons rfl (zg_app (by decide +kernel) (zg_app zgU_wsX110 (zg_app zg_k155_X4_has (zg_app zg_k270_X1_scan (zg_app zg_k290_X1_turnCount zg_nil)))))
theorem zi_k289_X11_turns : ∀ w ∈ wz_k289_X11_turns, w ∈ lw_tbl := zi_cons zw_1242 (zi_app (zi_cons zw_490 (zi_cons zw_1086 (zi_cons zw_747 (zi_cons zw_748 (zi_cons zw_108 (zi_cons zw_495 (zi_cons zw_1208 (zi_cons zw_1152 (zi_cons zw_1153 (zi_cons zw_113 (zi_cons zw_1243 (zi_cons zw_1244 (zi_cons zw_1245 zi_nil))))))))))))) (zi_app inX11 (zi_app zi_k155_X4_has (zi_app zi_k270_X1_scan (zi_app zi_k290_X1_turnCount zi_nil)))))
set_option maxHeartbeats 4000000 in
set_option maxRecDepth 100000 in
theorem k289_X11_turns (l : Launch) (D : va_G) (zt : Nat × Nat × Nat × (Nat → Nat) × (Nat → Nat)) (q : Nat → Nat) (d : Nat → ClassId) (I : Nat → Int32) (A : Nat → Nat → Int32) (z1 : Int32) (hIv : IvX I A) : GM l D zt (tyX d) yX11_turns wz_k289_X11_turns ({ frames := 6, cells := 0, slots := 0, locals := 131 } : Room) [.ref (q 0), .int z1] (wX q d I A) (fun v _ w' => ∃ (I' : Nat → Int32) (A' : Nat → Nat → Int32), Md [28, 30, 31, 32, 33, 34] I I' ∧ Md [21, 22, 23, 26] A A' ∧ IvX I' A' ∧ ∃ y0 : Int32, FE (fX11_turns I A z1) (y0, I', A') ∧ v = some (.int y0) ∧ w' = wX q d I' A') 0 0 := by
  refine GM.of (cc := cX11_turns) (maxL := 2) (ret := (some .int)) (own := RX11) (lv := [(0, .ref (q 0)), (1, .int z1)]) (by decide) rfl rfl (Nat.le_of_ble_eq_true rfl) rfl (fun κ sz hk hR hN => ?_)
  have hin11 : ∀ w ∈ u_ws RX11 TX11 10, w ∈ wz_k289_X11_turns := fun w h => (List.mem_cons_of_mem _ (List.mem_append_right _ (List.mem_append_left _ h)))
  have hF : FE (fX11_turns I A z1) (fX11_turns I A z1) := FE.rf
  refine g_aload_n hk dX11_turns_0 rfl ?_
  refine gX_r0_3 hk hin11 (List.mem_cons_of_mem _ (List.mem_append_left _ (List.mem_of_getElem? (i := 0) rfl))) dX11_turns_1 ?_
  refine g_iload_n hk dX11_turns_4 rfl ?_
  refine g_callV (n := 1) hk (k168_X4_has l D zt q d I A z1 hIv) (SP.same _) (fun _ h => h) (gi_V (List.mem_cons_of_mem _ (List.mem_append_left _ (List.mem_of_getElem? (i := 1) rfl))) (List.mem_cons_of_mem _ (List.mem_append_left _ (List.mem_of_getElem? (i := 2) rfl))) (List.mem_cons_of_mem _ (List.mem_append_left _ (List.mem_of_getElem? (i := 3) rfl))) (List.mem_cons_of_mem _ (List.mem_append_left _ (List.mem_of_getElem? (i := 4) rfl))) (gi_sub (fun w h => (List.mem_cons_of_mem _ (List.mem_append_right _ (List.mem_append_right _ (List.mem_append_left _ h))))) zg_k155_X4_has)) rfl rfl rfl (by decide +kernel) ⟨Nat.le_of_ble_eq_true rfl, Nat.le_of_ble_eq_true rfl⟩ 15 rfl rfl rfl rfl (Nat.le_of_ble_eq_true rfl) ⟨Nat.le_of_ble_eq_true rfl, Nat.le_of_ble_eq_true rfl⟩ dX11_turns_5 (fun v ty' w' hp hk' => ?_)
  rcases hp with ⟨hC, rfl, rfl⟩ | ⟨c8760, c8761, c8762, c8763, hC, rfl, rfl⟩
  · skip
    replace hF := FE.pos hF hC
    show GW κ 2 0 0 (wX q d I A) 8 [(0, .ref (q 0)), (1, .int z1)] [.int 0]
    refine g_if_ne (tgt := 13) (a := 0) hk dX11_turns_8 (by decide) rfl (fun z9 => absurd z9 (show ¬ ((0 : Int) ≠ (0 : Int)) from by decide)) (fun _ => ?_)
    refine g_iconst (v := (-1)) hk dX11_turns_11 (by decide) ?_
    exact g_iret hk hR rfl ⟨I, A, (show Md [28, 30, 31, 32, 33, 34] I I from Md.rf), (show Md [21, 22, 23, 26] A A from Md.rf), hIv, (-1), hF, rfl, rfl⟩ dX11_turns_12
  · skip
    replace hF := FE.neg hF (fe_ne hC (by decide))
    show GW κ 2 0 0 (wX q d I A) 8 [(0, .ref (q 0)), (1, .int z1)] [.int 1]
    refine g_if_ne (tgt := 13) (a := 1) hk dX11_turns_8 (by decide) rfl (fun _ => ?_) (fun z9 => absurd (show (1 : Int) ≠ (0 : Int) from by decide) z9)
    refine g_aload_n hk dX11_turns_13 rfl ?_
    refine gX_r0_8 hk hin11 (List.mem_cons_of_mem _ (List.mem_append_left _ (List.mem_of_getElem? (i := 5) rfl))) dX11_turns_14 ?_
    refine g_iload_n hk dX11_turns_17 rfl ?_
    refine g_callV (n := 1) hk (k270_X1_scan l D zt q d I A z1 hIv) (SP.same _) (fun _ h => h) (gi_V (List.mem_cons_of_mem _ (List.mem_append_left _ (List.mem_of_getElem? (i := 6) rfl))) (List.mem_cons_of_mem _ (List.mem_append_left _ (List.mem_of_getElem? (i := 7) rfl))) (List.mem_cons_of_mem _ (List.mem_append_left _ (List.mem_of_getElem? (i := 8) rfl))) (List.mem_cons_of_mem _ (List.mem_append_left _ (List.mem_of_getElem? (i := 9) rfl))) (gi_sub (fun w h => (List.mem_cons_of_mem _ (List.mem_append_right _ (List.mem_append_right _ (List.mem_append_right _ (List.mem_append_left _ h)))))) zg_k270_X1_scan)) rfl rfl rfl (by decide +kernel) ⟨Nat.le_of_ble_eq_true rfl, Nat.le_of_ble_eq_true rfl⟩ 43 rfl rfl rfl rfl (Nat.le_of_ble_eq_true rfl) ⟨Nat.le_of_ble_eq_true rfl, Nat.le_of_ble_eq_true rfl⟩ dX11_turns_18 (fun v ty' w' hp hk' => ?_)
    obtain ⟨I8766, A8766, hI8766, hA8766, hV8766, hC, rfl, rfl⟩ := hp
    replace hF := FE.bdX hF hC
    show GW κ 2 0 0 (wX q d I8766 A8766) 21 [(0, .ref (q 0)), (1, .int z1)] []
    refine g_aload_n hk dX11_turns_21 rfl ?_
    refine gX_r0_8 hk hin11 (List.mem_cons_of_mem _ (List.mem_append_left _ (List.mem_of_getElem? (i := 5) rfl))) dX11_turns_22 ?_
    refine g_callV (n := 0) hk (k290_X1_turnCount l D zt q d I8766 A8766  hV8766) (SP.same _) (fun _ h => h) (gi_V (List.mem_cons_of_mem _ (List.mem_append_left _ (List.mem_of_getElem? (i := 10) rfl))) (List.mem_cons_of_mem _ (List.mem_append_left _ (List.mem_of_getElem? (i := 11) rfl))) (List.mem_cons_of_mem _ (List.mem_append_left _ (List.mem_of_getElem? (i := 12) rfl))) (List.mem_cons_of_mem _ (List.mem_append_left _ (List.mem_of_getElem? (i := 9) rfl))) (gi_sub (fun w h => (List.mem_cons_of_mem _ (List.mem_append_right _ (List.mem_append_right _ (List.mem_append_right _ (List.mem_append_right _ (List.mem_append_left _ h))))))) zg_k290_X1_turnCount)) rfl rfl rfl (by decide +kernel) ⟨Nat.le_of_ble_eq_true rfl, Nat.le_of_ble_eq_true rfl⟩ 43 rfl rfl rfl rfl (Nat.le_of_ble_eq_true rfl) ⟨Nat.le_of_ble_eq_true rfl, Nat.le_of_ble_eq_true rfl⟩ dX11_turns_25 (fun v ty' w' hp hk' => ?_)
    obtain ⟨y8905, hC, rfl, rfl⟩ := hp
    replace hF := FE.lt hF (fe_s hC)
    show GW κ 2 0 0 (wX q d I8766 A8766) 28 [(0, .ref (q 0)), (1, .int z1)] [.int y8905]
    have b8906l := Int32.le_toInt y8905
    have b8906h := Int32.toInt_lt y8905
    exact g_iret hk hR rfl ⟨I8766, A8766, (show Md [28, 30, 31, 32, 33, 34] I I8766 from (Md.tr Md.rf hI8766 rfl)), (show Md [21, 22, 23, 26] A A8766 from (Md.tr Md.rf hA8766 rfl)), hV8766, y8905, hF, rfl, rfl⟩ dX11_turns_28
noncomputable def bX2_copyRow_36 (I : Nat → Int32) (z4 : Int32) (z2 : Int32) (A : Nat → Nat → Int32) : (Int32 → (Nat → Int32) → (Nat → Nat → Int32) → (Int32 × (Nat → Int32) × (Nat → Nat → Int32))) → Int32 → (Nat → Int32) → (Nat → Nat → Int32) → (Int32 × (Nat → Int32) × (Nat → Nat → Int32)) := fun kk8978 x8951 I8957 A8957 => if (I 30).toInt ≤ x8951.toInt then (0, I8957, A8957) else f_lt (z4 + x8951) fun y8981 => f_lt (z2 + x8951) fun y8982 => f_lt (x8951 + Int32.ofInt 1) fun y8983 => kk8978 y8983 I8957 (up3 A8957 30 (y8981.toNatClampNeg) (A 21 y8982.toNatClampNeg))
noncomputable def fX2_copyRow (I : Nat → Int32) (A : Nat → Nat → Int32) (z2 : Int32) (z4 : Int32) : Int32 × (Nat → Int32) × (Nat → Nat → Int32) := if z2.toInt < 0 then (0, I, A) else if z4.toInt < 0 then (0, I, A) else f_lt ((16 : Int32) - z2) fun y8947 => if y8947.toInt < (I 30).toInt then (0, I, A) else f_lt ((2560 : Int32) - z4) fun y8949 => if (I 30).toInt ≤ y8949.toInt then itr_iIA dfX (bX2_copyRow_36 I z4 z2 A) FU 0 I A else (0, I, A)
def wz_k295_X2_copyRow : List Cond := .code yX2_copyRow cX2_copyRow 6 none :: (wo_k219_X2_lessenAll ++ (wsX20 ++ ([] : List Cond)))
theorem zg_k295_X2_copyRow : ∀ w ∈ wz_k295_X2_copyRow, goodWord w = true := zg_cons rfl (zg_app (by decide +kernel) (zg_app zgU_wsX20 zg_nil))
theorem zi_k295_X2_copyRow : ∀ w ∈ wz_k295_X2_copyRow, w ∈ lw_tbl := zi_cons zw_1268 (zi_app (zi_cons zw_343 zi_nil) (zi_app inX2 zi_nil))
set_option maxHeartbeats 4000000 in
set_option maxRecDepth 100000 in
theorem k295_X2_copyRow (l : Launch) (D : va_G) (zt : Nat × Nat × Nat × (Nat → Nat) × (Nat → Nat)) (q : Nat → Nat) (d : Nat → ClassId) (I : Nat → Int32) (A : Nat → Nat → Int32) (z2 : Int32) (z4 : Int32) (hIv : IvX I A) : GM l D zt (tyX d) yX2_copyRow wz_k295_X2_copyRow ({ frames := 0, cells := 0, slots := 0, locals := 0 } : Room) [.ref (q 38), .ref (q 39), .int z2, .ref (q 50), .int z4] (wX q d I A) (fun v _ w' => ∃ (I' : Nat → Int32) (A' : Nat → Nat → Int32), Md [] I I' ∧ Md [30] A A' ∧ IvX I' A' ∧ FE (fX2_copyRow I A z2 z4) (0, I', A') ∧ v = none ∧ w' = wX q d I' A') 0 0 := by
  refine GM.of (cc := cX2_copyRow) (maxL := 6) (ret := none) (own := RX2) (lv := [(0, .ref (q 38)), (1, .ref (q 39)), (2, .int z2), (3, .ref (q 50)), (4, .int z4)]) (by decide) rfl rfl (Nat.le_of_ble_eq_true rfl) rfl (fun κ sz hk hR hN => ?_)
  have hin2 : ∀ w ∈ u_ws RX2 TX2 10, w ∈ wz_k295_X2_copyRow := fun w h => (List.mem_cons_of_mem _ (List.mem_append_right _ (List.mem_append_left _ h)))
  have hF : FE (fX2_copyRow I A z2 z4) (fX2_copyRow I A z2 z4) := FE.rf
  refine g_iload_n hk dX2_copyRow_0 rfl ?_
  have b8942l := Int32.le_toInt z2
  have b8942h := Int32.toInt_lt z2
  refine g_if_lt (tgt := 32) (a := z2.toInt) hk dX2_copyRow_1 (by decide) rfl (fun c8943 => ?_) (fun c8943 => ?_)
  · skip
    replace hF := FE.pos hF c8943
    exact g_vret hk hR ⟨I, A, (show Md [] I I from Md.rf), (show Md [30] A A from Md.rf), hIv, hF, rfl, rfl⟩ dX2_copyRow_32
  · skip
    replace hF := FE.neg hF c8943
    refine g_iload hk dX2_copyRow_4 rfl ?_
    have b8944l := Int32.le_toInt z4
    have b8944h := Int32.toInt_lt z4
    refine g_if_lt (tgt := 32) (a := z4.toInt) hk dX2_copyRow_6 (by decide) rfl (fun c8945 => ?_) (fun c8945 => ?_)
    · skip
      replace hF := FE.pos hF c8945
      exact g_vret hk hR ⟨I, A, (show Md [] I I from Md.rf), (show Md [30] A A from Md.rf), hIv, hF, rfl, rfl⟩ dX2_copyRow_32
    · skip
      replace hF := FE.neg hF c8945
      refine g_aload_n hk dX2_copyRow_9 rfl ?_
      refine gX_i30 (v := (I 30)) hk hin2 (List.mem_cons_of_mem _ (List.mem_append_left _ (List.mem_of_getElem? (i := 0) rfl))) dX2_copyRow_10 rfl ?_
      have f8946 := IvX_f30 hIv
      refine g_aload_n hk dX2_copyRow_13 rfl ?_
      refine nX_21 hk dX2_copyRow_14 ?_
      refine g_iload_n hk dX2_copyRow_15 rfl ?_
      refine g_isub hk dX2_copyRow_16 ?_
      refine g_topi (fun y8947 ey8947 => ?_)
      replace hF := FE.lt hF ey8947
      have hy8947 : y8947.toInt = 16 - z2.toInt := i32_sub ey8947 rfl rfl (by omega) (by omega)
      refine g_icmp_gt (tgt := 32) (a := (I 30).toInt) (b := y8947.toInt) hk dX2_copyRow_17 (by decide) rfl rfl (fun c8948 => ?_) (fun c8948 => ?_)
      · skip
        replace hF := FE.pos hF c8948
        exact g_vret hk hR ⟨I, A, (show Md [] I I from Md.rf), (show Md [30] A A from Md.rf), hIv, hF, rfl, rfl⟩ dX2_copyRow_32
      · skip
        replace hF := FE.neg hF c8948
        refine g_aload_n hk dX2_copyRow_20 rfl ?_
        refine gX_i30 (v := (I 30)) hk hin2 (List.mem_cons_of_mem _ (List.mem_append_left _ (List.mem_of_getElem? (i := 0) rfl))) dX2_copyRow_21 rfl ?_
        refine g_aload_n hk dX2_copyRow_24 rfl ?_
        refine nX_30 hk dX2_copyRow_25 ?_
        refine g_iload hk dX2_copyRow_26 rfl ?_
        refine g_isub hk dX2_copyRow_28 ?_
        refine g_topi (fun y8949 ey8949 => ?_)
        replace hF := FE.lt hF ey8949
        have hy8949 : y8949.toInt = 2560 - z4.toInt := i32_sub ey8949 rfl rfl (by omega) (by omega)
        refine g_icmp_le (tgt := 33) (a := (I 30).toInt) (b := y8949.toInt) hk dX2_copyRow_29 (by decide) rfl rfl (fun c8950 => ?_) (fun c8950 => ?_)
        · skip
          replace hF := FE.pos hF c8950
          refine g_iconst (v := 0) hk dX2_copyRow_33 (by decide) ?_
          refine g_istore (lv' := [(5, .int 0), (0, .ref (q 38)), (1, .ref (q 39)), (2, .int z2), (3, .ref (q 50)), (4, .int z4)]) hk dX2_copyRow_34 (by decide) rfl ?_
          have lp8975 : ∀ (n8976 : Nat) (x8951 : Int32) (I8957 : Nat → Int32) (A8957 : Nat → Nat → Int32), (Md [] I I8957) → (Md [30] A A8957) → (IvX I8957 A8957) → (0 ≤ x8951.toInt) → (x8951.toInt ≤ 16) → (17 - x8951.toInt < (n8976 : Int)) → (0 < n8976) → (FE (fX2_copyRow I A z2 z4) (itr_iIA dfX (bX2_copyRow_36 I z4 z2 A) n8976 x8951 I8957 A8957)) → GW κ 6 0 0 (wX q d I8957 A8957) 36 [(5, .int x8951), (0, .ref (q 38)), (1, .ref (q 39)), (2, .int z2), (3, .ref (q 50)), (4, .int z4)] [] := by
            intro n8976
            induction n8976 with
            | zero =>
              intro x8951 I8957 A8957 hI8957 hA8957 hV8957 h8973 h8974 m8977 m8977z hF
              exact absurd m8977z (Nat.lt_irrefl 0)
            | succ n8976 ih8979 =>
              intro x8951 I8957 A8957 hI8957 hA8957 hV8957 h8973 h8974 m8977 m8977z hF
              replace hF := FE.itr_iIA hF
              refine g_iload hk dX2_copyRow_36 rfl ?_
              refine g_aload_n hk dX2_copyRow_38 rfl ?_
              refine gX_i30 (v := (I 30)) hk hin2 (List.mem_cons_of_mem _ (List.mem_append_left _ (List.mem_of_getElem? (i := 0) rfl))) dX2_copyRow_39 (hI8957 30 rfl) ?_
              refine g_icmp_ge (tgt := 64) (a := x8951.toInt) (b := (I 30).toInt) hk dX2_copyRow_42 (by decide) rfl rfl (fun c8980 => ?_) (fun c8980 => ?_)
              · skip
                replace hF := FE.pos hF c8980
                exact g_vret hk hR ⟨I8957, A8957, (show Md [] I I8957 from (Md.tr Md.rf hI8957 rfl)), (show Md [30] A A8957 from (Md.tr Md.rf hA8957 rfl)), hV8957, hF, rfl, rfl⟩ dX2_copyRow_64
              · skip
                replace hF := FE.neg hF c8980
                refine g_aload_n hk dX2_copyRow_45 rfl ?_
                refine g_iload hk dX2_copyRow_46 rfl ?_
                refine g_iload hk dX2_copyRow_48 rfl ?_
                refine g_iadd hk dX2_copyRow_50 ?_
                refine g_topi (fun y8981 ey8981 => ?_)
                replace hF := FE.lt hF ey8981
                have hy8981 : y8981.toInt = z4.toInt + x8951.toInt := i32_add ey8981 rfl rfl (by omega) (by omega)
                refine g_aload_n hk dX2_copyRow_51 rfl ?_
                refine g_iload_n hk dX2_copyRow_52 rfl ?_
                refine g_iload hk dX2_copyRow_53 rfl ?_
                refine g_iadd hk dX2_copyRow_55 ?_
                refine g_topi (fun y8982 ey8982 => ?_)
                replace hF := FE.lt hF ey8982
                have hy8982 : y8982.toInt = z2.toInt + x8951.toInt := i32_add ey8982 rfl rfl (by omega) (by omega)
                refine lX_21 (v := (A 21 y8982.toNatClampNeg)) hk (vp_in_iff.mpr ⟨by omega, by omega⟩) (congrFun (hA8957 21 rfl) _) dX2_copyRow_56 ?_
                refine sX_30 (j := y8981.toNatClampNeg) hk (vp_in_iff.mpr ⟨by omega, by omega⟩) rfl dX2_copyRow_57 ?_
                obtain ⟨y8983, ey8983⟩ : ∃ y : Int32, y = x8951 + Int32.ofInt 1 := ⟨_, rfl⟩
                replace hF := FE.lt hF ey8983
                have hy8983 : y8983.toInt = x8951.toInt + 1 := i32_add ey8983 rfl (by decide) (by omega) (by omega)
                refine g_iinc (v := y8983) (lv' := [(5, .int y8983), (0, .ref (q 38)), (1, .ref (q 39)), (2, .int z2), (3, .ref (q 50)), (4, .int z4)]) hk 0 dX2_copyRow_58 rfl ey8983.symm (by decide) rfl ?_
                refine g_goto (tgt := 36) hk dX2_copyRow_61 (by decide) ?_
                exact g_lv (List.forall_mem_cons.mpr ⟨List.mem_of_getElem? (i := 0) rfl, (List.forall_mem_cons.mpr ⟨List.mem_of_getElem? (i := 1) rfl, (List.forall_mem_cons.mpr ⟨List.mem_of_getElem? (i := 2) rfl, (List.forall_mem_cons.mpr ⟨List.mem_of_getElem? (i := 3) rfl, (List.forall_mem_cons.mpr ⟨List.mem_of_getElem? (i := 4) rfl, (List.forall_mem_cons.mpr ⟨List.mem_of_getElem? (i := 5) rfl, (fun _ h => absurd h List.not_mem_nil)⟩)⟩)⟩)⟩)⟩)⟩) (ih8979 y8983 I8957 (up3 A8957 30 (y8981.toNatClampNeg) (A 21 y8982.toNatClampNeg)) (show Md [] I I8957 from Md.tr hI8957 (show Md [] I8957 I8957 from Md.rf) rfl) (show Md [30] A (up3 A8957 30 (y8981.toNatClampNeg) (A 21 y8982.toNatClampNeg)) from Md.tr hA8957 (show Md [30] A8957 (up3 A8957 30 (y8981.toNatClampNeg) (A 21 y8982.toNatClampNeg)) from (Md.up3 Md.rf rfl)) rfl) ⟨(IvX_f0 (I := I8957) (A := A8957) hV8957), (IvX_f18 (I := I8957) (A := A8957) hV8957), (IvX_f30 (I := I8957) (A := A8957) hV8957), (IvX_f31 (I := I8957) (A := A8957) hV8957), (IvX_a4 (I := I8957) (A := A8957) hV8957), (IvX_a9 (I := I8957) (A := A8957) hV8957), trivial⟩ (by omega) (by omega) (by omega) (by omega) hF)
          have k8985 : (0 : Int32).toInt = 0 := rfl
          have n8984a : 17 - 0 < (FU : Int) := by have := FU_eq; omega
          have n8984b : 0 < FU := by have := FU_eq; omega
          exact lp8975 FU 0 I A Md.rf Md.rf hIv (by omega) (by omega) n8984a n8984b hF
        · skip
          replace hF := FE.neg hF c8950
          exact g_vret hk hR ⟨I, A, (show Md [] I I from Md.rf), (show Md [30] A A from Md.rf), hIv, hF, rfl, rfl⟩ dX2_copyRow_32
noncomputable def fX2_giveLeft (I : Nat → Int32) (A : Nat → Nat → Int32) (z2 : Int32) : Int32 × (Nat → Int32) × (Nat → Nat → Int32) := f_bdX (fX2_copyRow I A 0 z2) fun _ I8988 A8988 => (0, I8988, A8988)
def wo_k294_X2_giveLeft : List Cond := [Cond.fieldLink RX2 9 "WarpDesk$Fit" "left" "[I", Cond.methodLink RX2 46 yX2_copyRow, Cond.instanceMethod yX2_copyRow, Cond.selects RX2 yX2_copyRow yX2_copyRow, Cond.initialized RX2]
def wz_k294_X2_giveLeft : List Cond := .code yX2_giveLeft cX2_giveLeft 3 none :: (wo_k294_X2_giveLeft ++ (wsX20 ++ (wz_k295_X2_copyRow ++ ([] : List Cond))))
theorem zg_k294_X2_giveLeft : ∀ w ∈ wz_k294_X2_giveLeft, goodWord w = true := zg_cons rfl (zg_app (by decide +kernel) (zg_app zgU_wsX20 (zg_app zg_k295_X2_copyRow zg_nil)))
theorem zi_k294_X2_giveLeft : ∀ w ∈ wz_k294_X2_giveLeft, w ∈ lw_tbl := zi_cons zw_1264 (zi_app (zi_cons zw_334 (zi_cons zw_1265 (zi_cons zw_1267 (zi_cons zw_40 (zi_cons zw_112 zi_nil))))) (zi_app inX2 (zi_app zi_k295_X2_copyRow zi_nil)))
set_option maxHeartbeats 4000000 in
set_option maxRecDepth 100000 in
theorem k294_X2_giveLeft (l : Launch) (D : va_G) (zt : Nat × Nat × Nat × (Nat → Nat) × (Nat → Nat)) (q : Nat → Nat) (d : Nat → ClassId) (I : Nat → Int32) (A : Nat → Nat → Int32) (z2 : Int32) (hIv : IvX I A) : GM l D zt (tyX d) yX2_giveLeft wz_k294_X2_giveLeft ({ frames := 1, cells := 0, slots := 0, locals := 25 } : Room) [.ref (q 38), .ref (q 50), .int z2] (wX q d I A) (fun v _ w' => ∃ (I' : Nat → Int32) (A' : Nat → Nat → Int32), Md [] I I' ∧ Md [30] A A' ∧ IvX I' A' ∧ FE (fX2_giveLeft I A z2) (0, I', A') ∧ v = none ∧ w' = wX q d I' A') 0 0 := by
  refine GM.of (cc := cX2_giveLeft) (maxL := 3) (ret := none) (own := RX2) (lv := [(0, .ref (q 38)), (1, .ref (q 50)), (2, .int z2)]) (by decide) rfl rfl (Nat.le_of_ble_eq_true rfl) rfl (fun κ sz hk hR hN => ?_)
  have hin2 : ∀ w ∈ u_ws RX2 TX2 10, w ∈ wz_k294_X2_giveLeft := fun w h => (List.mem_cons_of_mem _ (List.mem_append_right _ (List.mem_append_left _ h)))
  have hF : FE (fX2_giveLeft I A z2) (fX2_giveLeft I A z2) := FE.rf
  refine g_aload_n hk dX2_giveLeft_0 rfl ?_
  refine g_aload_n hk dX2_giveLeft_1 rfl ?_
  refine gX_r38_0 hk hin2 (List.mem_cons_of_mem _ (List.mem_append_left _ (List.mem_of_getElem? (i := 0) rfl))) dX2_giveLeft_2 ?_
  refine g_iconst (v := 0) hk dX2_giveLeft_5 (by decide) ?_
  refine g_aload_n hk dX2_giveLeft_6 rfl ?_
  refine g_iload_n hk dX2_giveLeft_7 rfl ?_
  have k8986 : (0 : Int32).toInt = 0 := rfl
  refine g_callV (n := 4) hk (k295_X2_copyRow l D zt q d I A 0 z2 hIv) (SP.same _) (fun _ h => h) (gi_V (List.mem_cons_of_mem _ (List.mem_append_left _ (List.mem_of_getElem? (i := 1) rfl))) (List.mem_cons_of_mem _ (List.mem_append_left _ (List.mem_of_getElem? (i := 2) rfl))) (List.mem_cons_of_mem _ (List.mem_append_left _ (List.mem_of_getElem? (i := 3) rfl))) (List.mem_cons_of_mem _ (List.mem_append_left _ (List.mem_of_getElem? (i := 4) rfl))) (gi_sub (fun w h => (List.mem_cons_of_mem _ (List.mem_append_right _ (List.mem_append_right _ (List.mem_append_left _ h))))) zg_k295_X2_copyRow)) rfl rfl rfl (by decide +kernel) ⟨Nat.le_of_ble_eq_true rfl, Nat.le_of_ble_eq_true rfl⟩ 38 rfl rfl rfl rfl (Nat.le_of_ble_eq_true rfl) ⟨Nat.le_of_ble_eq_true rfl, Nat.le_of_ble_eq_true rfl⟩ dX2_giveLeft_8 (fun v ty' w' hp hk' => ?_)
  obtain ⟨I8988, A8988, hI8988, hA8988, hV8988, hC, rfl, rfl⟩ := hp
  replace hF := FE.bdX hF hC
  show GW κ 3 0 0 (wX q d I8988 A8988) 11 [(0, .ref (q 38)), (1, .ref (q 50)), (2, .int z2)] []
  exact g_vret hk hR ⟨I8988, A8988, (show Md [] I I8988 from (Md.tr Md.rf hI8988 rfl)), (show Md [30] A A8988 from (Md.tr Md.rf hA8988 rfl)), hV8988, hF, rfl, rfl⟩ dX2_giveLeft_11
noncomputable def bX9_bringAll_2 (z1 : Int32) : (Int32 → (Nat → Int32) → (Nat → Nat → Int32) → (Int32 × (Nat → Int32) × (Nat → Nat → Int32))) → Int32 → (Nat → Int32) → (Nat → Nat → Int32) → (Int32 × (Nat → Int32) × (Nat → Nat → Int32)) := fun kk9097 x8924 I8927 A8927 => if 160 ≤ x8924.toInt then (0, I8927, A8927) else if fX6_hasWindow I8927 A8927 x8924 z1 = 0 then f_lt ((up3 A8927 31 (x8924.toNatClampNeg) (vp_nar .boolean 0)) 31 (x8924.toNatClampNeg)) fun y9109 => if y9109.toInt = 0 then f_lt (x8924 + Int32.ofInt 1) fun y9112 => kk9097 y9112 I8927 (up3 A8927 31 (x8924.toNatClampNeg) (vp_nar .boolean 0)) else f_bdX (fX0_openWindow I8927 (up3 A8927 31 (x8924.toNatClampNeg) (vp_nar .boolean 0)) x8924 z1) fun _ I9114 A9114 => f_lt (x8924 * (16 : Int32)) fun y9115 => f_bdX (fX2_giveLeft I9114 A9114 y9115) fun _ I9117 A9117 => f_lt (x8924 + Int32.ofInt 1) fun y9118 => kk9097 y9118 I9117 A9117 else f_lt ((up3 A8927 31 (x8924.toNatClampNeg) (vp_nar .boolean 1)) 31 (x8924.toNatClampNeg)) fun y9120 => if y9120.toInt = 0 then f_lt (x8924 + Int32.ofInt 1) fun y9123 => kk9097 y9123 I8927 (up3 A8927 31 (x8924.toNatClampNeg) (vp_nar .boolean 1)) else f_bdX (fX0_openWindow I8927 (up3 A8927 31 (x8924.toNatClampNeg) (vp_nar .boolean 1)) x8924 z1) fun _ I9125 A9125 => f_lt (x8924 * (16 : Int32)) fun y9126 => f_bdX (fX2_giveLeft I9125 A9125 y9126) fun _ I9128 A9128 => f_lt (x8924 + Int32.ofInt 1) fun y9129 => kk9097 y9129 I9128 A9128
noncomputable def fX9_bringAll (I : Nat → Int32) (A : Nat → Nat → Int32) (z1 : Int32) : Int32 × (Nat → Int32) × (Nat → Nat → Int32) := itr_iIA dfX (bX9_bringAll_2 z1) FU 0 I A
def wo_k293_X9_bringAll : List Cond := [Cond.fieldLink RX9 15 "WarpDesk$Stretches" "isThere" "[Z", Cond.fieldLink RX9 19 "WarpDesk$Stretches" "bench" "LWarpDesk$Bench;", Cond.fieldLink RX9 30 "WarpDesk$Bench" "series" "LWarpDesk$Series;", Cond.methodLink RX9 34 yX6_hasWindow, Cond.instanceMethod yX6_hasWindow, Cond.selects RX6 yX6_hasWindow yX6_hasWindow, Cond.initialized RX6, Cond.methodLink RX9 40 yX0_openWindow, Cond.instanceMethod yX0_openWindow, Cond.selects RX0 yX0_openWindow yX0_openWindow, Cond.initialized RX0, Cond.fieldLink RX9 29 "WarpDesk$Stretches" "fit" "LWarpDesk$Fit;", Cond.fieldLink RX9 9 "WarpDesk$Stretches" "rows" "[I", Cond.methodLink RX9 44 yX2_giveLeft, Cond.instanceMethod yX2_giveLeft, Cond.selects RX2 yX2_giveLeft yX2_giveLeft, Cond.initialized RX2]
def wz_k293_X9_bringAll : List Cond := .code yX9_bringAll cX9_bringAll 3 none :: (wo_k293_X9_bringAll ++ (wsX00 ++ (wsX90 ++ (wz_k207_X6_hasWindow ++ (wz_k213_X0_openWindow ++ (wz_k294_X2_giveLeft ++ ([] : List Cond)))))))
theorem zg_k293_X9_bringAll : ∀ w ∈ wz_k293_X9_bringAll, goodWord w = true := zg_cons rfl (zg_app (by decide +kernel) (zg_app zgU_wsX00 (zg_app zgU_wsX90 (zg_app zg_k207_X6_hasWindow (zg_app zg_k213_X0_openWindow (zg_app zg_k294_X2_giveLeft zg_nil))))))
theorem zi_k293_X9_bringAll : ∀ w ∈ wz_k293_X9_bringAll, w ∈ lw_tbl := zi_cons zw_1258 (zi_app (zi_cons zw_449 (zi_cons zw_446 (zi_cons zw_375 (zi_cons zw_1259 (zi_cons zw_902 (zi_cons zw_903 (zi_cons zw_109 (zi_cons zw_1260 (zi_cons zw_930 (zi_cons zw_931 (zi_cons zw_111 (zi_cons zw_447 (zi_cons zw_448 (zi_cons zw_1261 (zi_cons zw_1262 (zi_cons zw_1263 (zi_cons zw_112 zi_nil))))))))))))))))) (zi_app inX0 (zi_app inX9 (zi_app zi_k207_X6_hasWindow (zi_app zi_k213_X0_openWindow (zi_app zi_k294_X2_giveLeft zi_nil))))))
set_option maxHeartbeats 4000000 in
set_option maxRecDepth 100000 in
theorem k293_X9_bringAll (l : Launch) (D : va_G) (zt : Nat × Nat × Nat × (Nat → Nat) × (Nat → Nat)) (q : Nat → Nat) (d : Nat → ClassId) (I : Nat → Int32) (A : Nat → Nat → Int32) (z1 : Int32) (hIv : IvX I A) : GM l D zt (tyX d) yX9_bringAll wz_k293_X9_bringAll ({ frames := 4, cells := 0, slots := 0, locals := 82 } : Room) [.ref (q 49), .int z1] (wX q d I A) (fun v _ w' => ∃ (I' : Nat → Int32) (A' : Nat → Nat → Int32), Md [28, 30, 31, 32] I I' ∧ Md [21, 30, 31] A A' ∧ IvX I' A' ∧ FE (fX9_bringAll I A z1) (0, I', A') ∧ v = none ∧ w' = wX q d I' A') 0 0 := by
  refine GM.of (cc := cX9_bringAll) (maxL := 3) (ret := none) (own := RX9) (lv := [(0, .ref (q 49)), (1, .int z1)]) (by decide) rfl rfl (Nat.le_of_ble_eq_true rfl) rfl (fun κ sz hk hR hN => ?_)
  have hin0 : ∀ w ∈ u_ws RX0 TX0 5, w ∈ wz_k293_X9_bringAll := fun w h => (List.mem_cons_of_mem _ (List.mem_append_right _ (List.mem_append_left _ h)))
  have hin9 : ∀ w ∈ u_ws RX9 TX9 11, w ∈ wz_k293_X9_bringAll := fun w h => (List.mem_cons_of_mem _ (List.mem_append_right _ (List.mem_append_right _ (List.mem_append_left _ h))))
  have hF : FE (fX9_bringAll I A z1) (fX9_bringAll I A z1) := FE.rf
  refine g_iconst (v := 0) hk dX9_bringAll_0 (by decide) ?_
  refine g_istore_n (lv' := [(2, .int 0), (0, .ref (q 49)), (1, .int z1)]) hk dX9_bringAll_1 (by decide) rfl ?_
  have lp9094 : ∀ (n9095 : Nat) (x8924 : Int32) (I8927 : Nat → Int32) (A8927 : Nat → Nat → Int32), (Md [28, 30, 31, 32] I I8927) → (Md [21, 30, 31] A A8927) → (IvX I8927 A8927) → (0 ≤ x8924.toInt) → (x8924.toInt ≤ 160) → (161 - x8924.toInt < (n9095 : Int)) → (0 < n9095) → (FE (fX9_bringAll I A z1) (itr_iIA dfX (bX9_bringAll_2 z1) n9095 x8924 I8927 A8927)) → GW κ 3 0 0 (wX q d I8927 A8927) 2 [(2, .int x8924), (0, .ref (q 49)), (1, .int z1)] [] := by
    intro n9095
    induction n9095 with
    | zero =>
      intro x8924 I8927 A8927 hI8927 hA8927 hV8927 h9092 h9093 m9096 m9096z hF
      exact absurd m9096z (Nat.lt_irrefl 0)
    | succ n9095 ih9098 =>
      intro x8924 I8927 A8927 hI8927 hA8927 hV8927 h9092 h9093 m9096 m9096z hF
      replace hF := FE.itr_iIA hF
      refine g_iload_n hk dX9_bringAll_2 rfl ?_
      refine g_sipush (v := 160) hk dX9_bringAll_3 (by decide) ?_
      refine g_icmp_ge (tgt := 66) (a := x8924.toInt) (b := 160) hk dX9_bringAll_6 (by decide) rfl rfl (fun c9099 => ?_) (fun c9099 => ?_)
      · skip
        replace hF := FE.pos hF c9099
        exact g_vret hk hR ⟨I8927, A8927, (show Md [28, 30, 31, 32] I I8927 from (Md.tr Md.rf hI8927 rfl)), (show Md [21, 30, 31] A A8927 from (Md.tr Md.rf hA8927 rfl)), hV8927, hF, rfl, rfl⟩ dX9_bringAll_66
      · skip
        replace hF := FE.neg hF c9099
        refine g_aload_n hk dX9_bringAll_9 rfl ?_
        refine gX_r49_3 hk hin9 (List.mem_cons_of_mem _ (List.mem_append_left _ (List.mem_of_getElem? (i := 0) rfl))) dX9_bringAll_10 ?_
        refine g_iload_n hk dX9_bringAll_13 rfl ?_
        refine g_aload_n hk dX9_bringAll_14 rfl ?_
        refine gX_r49_0 hk hin9 (List.mem_cons_of_mem _ (List.mem_append_left _ (List.mem_of_getElem? (i := 1) rfl))) dX9_bringAll_15 ?_
        refine gX_r37_0 hk hin0 (List.mem_cons_of_mem _ (List.mem_append_left _ (List.mem_of_getElem? (i := 2) rfl))) dX9_bringAll_18 ?_
        refine g_iload_n hk dX9_bringAll_21 rfl ?_
        refine g_iload_n hk dX9_bringAll_22 rfl ?_
        refine g_callV (n := 2) hk (k207_X6_hasWindow l D zt q d I8927 A8927 x8924 z1 hV8927) (SP.same _) (fun _ h => h) (gi_V (List.mem_cons_of_mem _ (List.mem_append_left _ (List.mem_of_getElem? (i := 3) rfl))) (List.mem_cons_of_mem _ (List.mem_append_left _ (List.mem_of_getElem? (i := 4) rfl))) (List.mem_cons_of_mem _ (List.mem_append_left _ (List.mem_of_getElem? (i := 5) rfl))) (List.mem_cons_of_mem _ (List.mem_append_left _ (List.mem_of_getElem? (i := 6) rfl))) (gi_sub (fun w h => (List.mem_cons_of_mem _ (List.mem_append_right _ (List.mem_append_right _ (List.mem_append_right _ (List.mem_append_left _ h)))))) zg_k207_X6_hasWindow)) rfl rfl rfl (by decide +kernel) ⟨Nat.le_of_ble_eq_true rfl, Nat.le_of_ble_eq_true rfl⟩ 13 rfl rfl rfl rfl (Nat.le_of_ble_eq_true rfl) ⟨Nat.le_of_ble_eq_true rfl, Nat.le_of_ble_eq_true rfl⟩ dX9_bringAll_23 (fun v ty' w' hp hk' => ?_)
        rcases hp with ⟨hC, rfl, rfl⟩ | ⟨c9101, c9102, c9103, c9104, c9105, c9106, hC, rfl, rfl⟩
        · skip
          replace hF := FE.pos hF hC
          show GW κ 3 0 0 (wX q d I8927 A8927) 26 [(2, .int x8924), (0, .ref (q 49)), (1, .int z1)] [.int 0, .int x8924, .ref (q 51)]
          have k9108 : (0 : Int32).toInt = 0 := rfl
          refine sX_31 (y := (vp_nar .boolean 0)) (j := x8924.toNatClampNeg) hk (vp_in_iff.mpr ⟨by omega, by omega⟩) rfl rfl dX9_bringAll_26 ?_
          refine g_aload_n hk dX9_bringAll_27 rfl ?_
          refine gX_r49_3 hk hin9 (List.mem_cons_of_mem _ (List.mem_append_left _ (List.mem_of_getElem? (i := 0) rfl))) dX9_bringAll_28 ?_
          refine g_iload_n hk dX9_bringAll_31 rfl ?_
          refine lX_31 hk (vp_in_iff.mpr ⟨by omega, by omega⟩) rfl dX9_bringAll_32 ?_
          refine g_topi (fun y9109 ey9109 => ?_)
          replace hF := FE.lt hF ey9109
          have b9110l := Int32.le_toInt y9109
          have b9110h := Int32.toInt_lt y9109
          refine g_if_eq (tgt := 60) (a := y9109.toInt) hk dX9_bringAll_33 (by decide) rfl (fun c9111 => ?_) (fun c9111 => ?_)
          · skip
            replace hF := FE.pos hF c9111
            obtain ⟨y9112, ey9112⟩ : ∃ y : Int32, y = x8924 + Int32.ofInt 1 := ⟨_, rfl⟩
            replace hF := FE.lt hF ey9112
            have hy9112 : y9112.toInt = x8924.toInt + 1 := i32_add ey9112 rfl (by decide) (by omega) (by omega)
            refine g_iinc (v := y9112) (lv' := [(2, .int y9112), (0, .ref (q 49)), (1, .int z1)]) hk 0 dX9_bringAll_60 rfl ey9112.symm (by decide) rfl ?_
            refine g_goto (tgt := 2) hk dX9_bringAll_63 (by decide) ?_
            exact g_lv (List.forall_mem_cons.mpr ⟨List.mem_of_getElem? (i := 0) rfl, (List.forall_mem_cons.mpr ⟨List.mem_of_getElem? (i := 1) rfl, (List.forall_mem_cons.mpr ⟨List.mem_of_getElem? (i := 2) rfl, (fun _ h => absurd h List.not_mem_nil)⟩)⟩)⟩) (ih9098 y9112 I8927 (up3 A8927 31 (x8924.toNatClampNeg) (vp_nar .boolean 0)) (show Md [28, 30, 31, 32] I I8927 from Md.tr hI8927 (show Md [28, 30, 31, 32] I8927 I8927 from Md.rf) rfl) (show Md [21, 30, 31] A (up3 A8927 31 (x8924.toNatClampNeg) (vp_nar .boolean 0)) from Md.tr hA8927 (show Md [21, 30, 31] A8927 (up3 A8927 31 (x8924.toNatClampNeg) (vp_nar .boolean 0)) from (Md.up3 Md.rf rfl)) rfl) ⟨(IvX_f0 (I := I8927) (A := A8927) hV8927), (IvX_f18 (I := I8927) (A := A8927) hV8927), (IvX_f30 (I := I8927) (A := A8927) hV8927), (IvX_f31 (I := I8927) (A := A8927) hV8927), (IvX_a4 (I := I8927) (A := A8927) hV8927), (IvX_a9 (I := I8927) (A := A8927) hV8927), trivial⟩ (by omega) (by omega) (by omega) (by omega) hF)
          · skip
            replace hF := FE.neg hF c9111
            refine g_aload_n hk dX9_bringAll_36 rfl ?_
            refine gX_r49_0 hk hin9 (List.mem_cons_of_mem _ (List.mem_append_left _ (List.mem_of_getElem? (i := 1) rfl))) dX9_bringAll_37 ?_
            refine g_iload_n hk dX9_bringAll_40 rfl ?_
            refine g_iload_n hk dX9_bringAll_41 rfl ?_
            refine g_callV (n := 2) hk (k213_X0_openWindow l D zt q d I8927 (up3 A8927 31 (x8924.toNatClampNeg) (vp_nar .boolean 0)) x8924 z1 ⟨(IvX_f0 (I := I8927) (A := A8927) hV8927), (IvX_f18 (I := I8927) (A := A8927) hV8927), (IvX_f30 (I := I8927) (A := A8927) hV8927), (IvX_f31 (I := I8927) (A := A8927) hV8927), (IvX_a4 (I := I8927) (A := A8927) hV8927), (IvX_a9 (I := I8927) (A := A8927) hV8927), trivial⟩) (SP.same _) (fun _ h => h) (gi_V (List.mem_cons_of_mem _ (List.mem_append_left _ (List.mem_of_getElem? (i := 7) rfl))) (List.mem_cons_of_mem _ (List.mem_append_left _ (List.mem_of_getElem? (i := 8) rfl))) (List.mem_cons_of_mem _ (List.mem_append_left _ (List.mem_of_getElem? (i := 9) rfl))) (List.mem_cons_of_mem _ (List.mem_append_left _ (List.mem_of_getElem? (i := 10) rfl))) (gi_sub (fun w h => (List.mem_cons_of_mem _ (List.mem_append_right _ (List.mem_append_right _ (List.mem_append_right _ (List.mem_append_right _ (List.mem_append_left _ h))))))) zg_k213_X0_openWindow)) rfl rfl rfl (by decide +kernel) ⟨Nat.le_of_ble_eq_true rfl, Nat.le_of_ble_eq_true rfl⟩ 37 rfl rfl rfl rfl (Nat.le_of_ble_eq_true rfl) ⟨Nat.le_of_ble_eq_true rfl, Nat.le_of_ble_eq_true rfl⟩ dX9_bringAll_42 (fun v ty' w' hp hk' => ?_)
            obtain ⟨I9114, A9114, hI9114, hA9114, hV9114, hC, rfl, rfl⟩ := hp
            replace hF := FE.bdX hF hC
            show GW κ 3 0 0 (wX q d I9114 A9114) 45 [(2, .int x8924), (0, .ref (q 49)), (1, .int z1)] []
            refine g_aload_n hk dX9_bringAll_45 rfl ?_
            refine gX_r49_1 hk hin9 (List.mem_cons_of_mem _ (List.mem_append_left _ (List.mem_of_getElem? (i := 11) rfl))) dX9_bringAll_46 ?_
            refine g_aload_n hk dX9_bringAll_49 rfl ?_
            refine gX_r49_2 hk hin9 (List.mem_cons_of_mem _ (List.mem_append_left _ (List.mem_of_getElem? (i := 12) rfl))) dX9_bringAll_50 ?_
            refine g_iload_n hk dX9_bringAll_53 rfl ?_
            refine g_bipush (v := 16) hk dX9_bringAll_54 (by decide) ?_
            refine g_imul hk dX9_bringAll_56 ?_
            refine g_topi (fun y9115 ey9115 => ?_)
            replace hF := FE.lt hF ey9115
            have hy9115 : y9115.toInt = x8924.toInt * 16 := i32_mul ey9115 rfl rfl (by omega) (by omega)
            refine g_callV (n := 2) hk (k294_X2_giveLeft l D zt q d I9114 A9114 y9115 hV9114) (SP.same _) (fun _ h => h) (gi_V (List.mem_cons_of_mem _ (List.mem_append_left _ (List.mem_of_getElem? (i := 13) rfl))) (List.mem_cons_of_mem _ (List.mem_append_left _ (List.mem_of_getElem? (i := 14) rfl))) (List.mem_cons_of_mem _ (List.mem_append_left _ (List.mem_of_getElem? (i := 15) rfl))) (List.mem_cons_of_mem _ (List.mem_append_left _ (List.mem_of_getElem? (i := 16) rfl))) (gi_sub (fun w h => (List.mem_cons_of_mem _ (List.mem_append_right _ (List.mem_append_right _ (List.mem_append_right _ (List.mem_append_right _ (List.mem_append_right _ (List.mem_append_left _ h)))))))) zg_k294_X2_giveLeft)) rfl rfl rfl (by decide +kernel) ⟨Nat.le_of_ble_eq_true rfl, Nat.le_of_ble_eq_true rfl⟩ 38 rfl rfl rfl rfl (Nat.le_of_ble_eq_true rfl) ⟨Nat.le_of_ble_eq_true rfl, Nat.le_of_ble_eq_true rfl⟩ dX9_bringAll_57 (fun v ty' w' hp hk' => ?_)
            obtain ⟨I9117, A9117, hI9117, hA9117, hV9117, hC, rfl, rfl⟩ := hp
            replace hF := FE.bdX hF hC
            show GW κ 3 0 0 (wX q d I9117 A9117) 60 [(2, .int x8924), (0, .ref (q 49)), (1, .int z1)] []
            obtain ⟨y9118, ey9118⟩ : ∃ y : Int32, y = x8924 + Int32.ofInt 1 := ⟨_, rfl⟩
            replace hF := FE.lt hF ey9118
            have hy9118 : y9118.toInt = x8924.toInt + 1 := i32_add ey9118 rfl (by decide) (by omega) (by omega)
            refine g_iinc (v := y9118) (lv' := [(2, .int y9118), (0, .ref (q 49)), (1, .int z1)]) hk 0 dX9_bringAll_60 rfl ey9118.symm (by decide) rfl ?_
            refine g_goto (tgt := 2) hk dX9_bringAll_63 (by decide) ?_
            exact g_lv (List.forall_mem_cons.mpr ⟨List.mem_of_getElem? (i := 0) rfl, (List.forall_mem_cons.mpr ⟨List.mem_of_getElem? (i := 1) rfl, (List.forall_mem_cons.mpr ⟨List.mem_of_getElem? (i := 2) rfl, (fun _ h => absurd h List.not_mem_nil)⟩)⟩)⟩) (ih9098 y9118 I9117 A9117 (show Md [28, 30, 31, 32] I I9117 from Md.tr hI8927 (show Md [28, 30, 31, 32] I8927 I9117 from (Md.tr (Md.tr Md.rf hI9114 rfl) hI9117 rfl)) rfl) (show Md [21, 30, 31] A A9117 from Md.tr hA8927 (show Md [21, 30, 31] A8927 A9117 from (Md.tr (Md.tr (Md.up3 Md.rf rfl) hA9114 rfl) hA9117 rfl)) rfl) hV9117 (by omega) (by omega) (by omega) (by omega) hF)
        · skip
          replace hF := FE.neg hF (fe_ne hC (by decide))
          show GW κ 3 0 0 (wX q d I8927 A8927) 26 [(2, .int x8924), (0, .ref (q 49)), (1, .int z1)] [.int 1, .int x8924, .ref (q 51)]
          have k9119 : (1 : Int32).toInt = 1 := rfl
          refine sX_31 (y := (vp_nar .boolean 1)) (j := x8924.toNatClampNeg) hk (vp_in_iff.mpr ⟨by omega, by omega⟩) rfl rfl dX9_bringAll_26 ?_
          refine g_aload_n hk dX9_bringAll_27 rfl ?_
          refine gX_r49_3 hk hin9 (List.mem_cons_of_mem _ (List.mem_append_left _ (List.mem_of_getElem? (i := 0) rfl))) dX9_bringAll_28 ?_
          refine g_iload_n hk dX9_bringAll_31 rfl ?_
          refine lX_31 hk (vp_in_iff.mpr ⟨by omega, by omega⟩) rfl dX9_bringAll_32 ?_
          refine g_topi (fun y9120 ey9120 => ?_)
          replace hF := FE.lt hF ey9120
          have b9121l := Int32.le_toInt y9120
          have b9121h := Int32.toInt_lt y9120
          refine g_if_eq (tgt := 60) (a := y9120.toInt) hk dX9_bringAll_33 (by decide) rfl (fun c9122 => ?_) (fun c9122 => ?_)
          · skip
            replace hF := FE.pos hF c9122
            obtain ⟨y9123, ey9123⟩ : ∃ y : Int32, y = x8924 + Int32.ofInt 1 := ⟨_, rfl⟩
            replace hF := FE.lt hF ey9123
            have hy9123 : y9123.toInt = x8924.toInt + 1 := i32_add ey9123 rfl (by decide) (by omega) (by omega)
            refine g_iinc (v := y9123) (lv' := [(2, .int y9123), (0, .ref (q 49)), (1, .int z1)]) hk 0 dX9_bringAll_60 rfl ey9123.symm (by decide) rfl ?_
            refine g_goto (tgt := 2) hk dX9_bringAll_63 (by decide) ?_
            exact g_lv (List.forall_mem_cons.mpr ⟨List.mem_of_getElem? (i := 0) rfl, (List.forall_mem_cons.mpr ⟨List.mem_of_getElem? (i := 1) rfl, (List.forall_mem_cons.mpr ⟨List.mem_of_getElem? (i := 2) rfl, (fun _ h => absurd h List.not_mem_nil)⟩)⟩)⟩) (ih9098 y9123 I8927 (up3 A8927 31 (x8924.toNatClampNeg) (vp_nar .boolean 1)) (show Md [28, 30, 31, 32] I I8927 from Md.tr hI8927 (show Md [28, 30, 31, 32] I8927 I8927 from Md.rf) rfl) (show Md [21, 30, 31] A (up3 A8927 31 (x8924.toNatClampNeg) (vp_nar .boolean 1)) from Md.tr hA8927 (show Md [21, 30, 31] A8927 (up3 A8927 31 (x8924.toNatClampNeg) (vp_nar .boolean 1)) from (Md.up3 Md.rf rfl)) rfl) ⟨(IvX_f0 (I := I8927) (A := A8927) hV8927), (IvX_f18 (I := I8927) (A := A8927) hV8927), (IvX_f30 (I := I8927) (A := A8927) hV8927), (IvX_f31 (I := I8927) (A := A8927) hV8927), (IvX_a4 (I := I8927) (A := A8927) hV8927), (IvX_a9 (I := I8927) (A := A8927) hV8927), trivial⟩ (by omega) (by omega) (by omega) (by omega) hF)
          · skip
            replace hF := FE.neg hF c9122
            refine g_aload_n hk dX9_bringAll_36 rfl ?_
            refine gX_r49_0 hk hin9 (List.mem_cons_of_mem _ (List.mem_append_left _ (List.mem_of_getElem? (i := 1) rfl))) dX9_bringAll_37 ?_
            refine g_iload_n hk dX9_bringAll_40 rfl ?_
            refine g_iload_n hk dX9_bringAll_41 rfl ?_
            refine g_callV (n := 2) hk (k213_X0_openWindow l D zt q d I8927 (up3 A8927 31 (x8924.toNatClampNeg) (vp_nar .boolean 1)) x8924 z1 ⟨(IvX_f0 (I := I8927) (A := A8927) hV8927), (IvX_f18 (I := I8927) (A := A8927) hV8927), (IvX_f30 (I := I8927) (A := A8927) hV8927), (IvX_f31 (I := I8927) (A := A8927) hV8927), (IvX_a4 (I := I8927) (A := A8927) hV8927), (IvX_a9 (I := I8927) (A := A8927) hV8927), trivial⟩) (SP.same _) (fun _ h => h) (gi_V (List.mem_cons_of_mem _ (List.mem_append_left _ (List.mem_of_getElem? (i := 7) rfl))) (List.mem_cons_of_mem _ (List.mem_append_left _ (List.mem_of_getElem? (i := 8) rfl))) (List.mem_cons_of_mem _ (List.mem_append_left _ (List.mem_of_getElem? (i := 9) rfl))) (List.mem_cons_of_mem _ (List.mem_append_left _ (List.mem_of_getElem? (i := 10) rfl))) (gi_sub (fun w h => (List.mem_cons_of_mem _ (List.mem_append_right _ (List.mem_append_right _ (List.mem_append_right _ (List.mem_append_right _ (List.mem_append_left _ h))))))) zg_k213_X0_openWindow)) rfl rfl rfl (by decide +kernel) ⟨Nat.le_of_ble_eq_true rfl, Nat.le_of_ble_eq_true rfl⟩ 37 rfl rfl rfl rfl (Nat.le_of_ble_eq_true rfl) ⟨Nat.le_of_ble_eq_true rfl, Nat.le_of_ble_eq_true rfl⟩ dX9_bringAll_42 (fun v ty' w' hp hk' => ?_)
            obtain ⟨I9125, A9125, hI9125, hA9125, hV9125, hC, rfl, rfl⟩ := hp
            replace hF := FE.bdX hF hC
            show GW κ 3 0 0 (wX q d I9125 A9125) 45 [(2, .int x8924), (0, .ref (q 49)), (1, .int z1)] []
            refine g_aload_n hk dX9_bringAll_45 rfl ?_
            refine gX_r49_1 hk hin9 (List.mem_cons_of_mem _ (List.mem_append_left _ (List.mem_of_getElem? (i := 11) rfl))) dX9_bringAll_46 ?_
            refine g_aload_n hk dX9_bringAll_49 rfl ?_
            refine gX_r49_2 hk hin9 (List.mem_cons_of_mem _ (List.mem_append_left _ (List.mem_of_getElem? (i := 12) rfl))) dX9_bringAll_50 ?_
            refine g_iload_n hk dX9_bringAll_53 rfl ?_
            refine g_bipush (v := 16) hk dX9_bringAll_54 (by decide) ?_
            refine g_imul hk dX9_bringAll_56 ?_
            refine g_topi (fun y9126 ey9126 => ?_)
            replace hF := FE.lt hF ey9126
            have hy9126 : y9126.toInt = x8924.toInt * 16 := i32_mul ey9126 rfl rfl (by omega) (by omega)
            refine g_callV (n := 2) hk (k294_X2_giveLeft l D zt q d I9125 A9125 y9126 hV9125) (SP.same _) (fun _ h => h) (gi_V (List.mem_cons_of_mem _ (List.mem_append_left _ (List.mem_of_getElem? (i := 13) rfl))) (List.mem_cons_of_mem _ (List.mem_append_left _ (List.mem_of_getElem? (i := 14) rfl))) (List.mem_cons_of_mem _ (List.mem_append_left _ (List.mem_of_getElem? (i := 15) rfl))) (List.mem_cons_of_mem _ (List.mem_append_left _ (List.mem_of_getElem? (i := 16) rfl))) (gi_sub (fun w h => (List.mem_cons_of_mem _ (List.mem_append_right _ (List.mem_append_right _ (List.mem_append_right _ (List.mem_append_right _ (List.mem_append_right _ (List.mem_append_left _ h)))))))) zg_k294_X2_giveLeft)) rfl rfl rfl (by decide +kernel) ⟨Nat.le_of_ble_eq_true rfl, Nat.le_of_ble_eq_true rfl⟩ 38 rfl rfl rfl rfl (Nat.le_of_ble_eq_true rfl) ⟨Nat.le_of_ble_eq_true rfl, Nat.le_of_ble_eq_true rfl⟩ dX9_bringAll_57 (fun v ty' w' hp hk' => ?_)
            obtain ⟨I9128, A9128, hI9128, hA9128, hV9128, hC, rfl, rfl⟩ := hp
            replace hF := FE.bdX hF hC
            show GW κ 3 0 0 (wX q d I9128 A9128) 60 [(2, .int x8924), (0, .ref (q 49)), (1, .int z1)] []
            obtain ⟨y9129, ey9129⟩ : ∃ y : Int32, y = x8924 + Int32.ofInt 1 := ⟨_, rfl⟩
            replace hF := FE.lt hF ey9129
            have hy9129 : y9129.toInt = x8924.toInt + 1 := i32_add ey9129 rfl (by decide) (by omega) (by omega)
            refine g_iinc (v := y9129) (lv' := [(2, .int y9129), (0, .ref (q 49)), (1, .int z1)]) hk 0 dX9_bringAll_60 rfl ey9129.symm (by decide) rfl ?_
            refine g_goto (tgt := 2) hk dX9_bringAll_63 (by decide) ?_
            exact g_lv (List.forall_mem_cons.mpr ⟨List.mem_of_getElem? (i := 0) rfl, (List.forall_mem_cons.mpr ⟨List.mem_of_getElem? (i := 1) rfl, (List.forall_mem_cons.mpr ⟨List.mem_of_getElem? (i := 2) rfl, (fun _ h => absurd h List.not_mem_nil)⟩)⟩)⟩) (ih9098 y9129 I9128 A9128 (show Md [28, 30, 31, 32] I I9128 from Md.tr hI8927 (show Md [28, 30, 31, 32] I8927 I9128 from (Md.tr (Md.tr Md.rf hI9125 rfl) hI9128 rfl)) rfl) (show Md [21, 30, 31] A A9128 from Md.tr hA8927 (show Md [21, 30, 31] A8927 A9128 from (Md.tr (Md.tr (Md.up3 Md.rf rfl) hA9125 rfl) hA9128 rfl)) rfl) hV9128 (by omega) (by omega) (by omega) (by omega) hF)
  have k9131 : (0 : Int32).toInt = 0 := rfl
  have n9130a : 161 - 0 < (FU : Int) := by have := FU_eq; omega
  have n9130b : 0 < FU := by have := FU_eq; omega
  exact lp9094 FU 0 I A Md.rf Md.rf hIv (by omega) (by omega) n9130a n9130b hF
noncomputable def bX2_copyRow_2_36 (I : Nat → Int32) (z4 : Int32) (z2 : Int32) (A : Nat → Nat → Int32) : (Int32 → (Nat → Int32) → (Nat → Nat → Int32) → (Int32 × (Nat → Int32) × (Nat → Nat → Int32))) → Int32 → (Nat → Int32) → (Nat → Nat → Int32) → (Int32 × (Nat → Int32) × (Nat → Nat → Int32)) := fun kk9172 x9145 I9151 A9151 => if (I 30).toInt ≤ x9145.toInt then (0, I9151, A9151) else f_lt (z4 + x9145) fun y9175 => f_lt (z2 + x9145) fun y9176 => f_lt (x9145 + Int32.ofInt 1) fun y9177 => kk9172 y9177 I9151 (up3 A9151 21 (y9175.toNatClampNeg) (A 30 y9176.toNatClampNeg))
noncomputable def fX2_copyRow_2 (I : Nat → Int32) (A : Nat → Nat → Int32) (z2 : Int32) (z4 : Int32) : Int32 × (Nat → Int32) × (Nat → Nat → Int32) := if z2.toInt < 0 then (0, I, A) else if z4.toInt < 0 then (0, I, A) else f_lt ((2560 : Int32) - z2) fun y9141 => if y9141.toInt < (I 30).toInt then (0, I, A) else f_lt ((16 : Int32) - z4) fun y9143 => if (I 30).toInt ≤ y9143.toInt then itr_iIA dfX (bX2_copyRow_2_36 I z4 z2 A) FU 0 I A else (0, I, A)
set_option maxHeartbeats 4000000 in
set_option maxRecDepth 100000 in
theorem k298_X2_copyRow (l : Launch) (D : va_G) (zt : Nat × Nat × Nat × (Nat → Nat) × (Nat → Nat)) (q : Nat → Nat) (d : Nat → ClassId) (I : Nat → Int32) (A : Nat → Nat → Int32) (z2 : Int32) (z4 : Int32) (hIv : IvX I A) : GM l D zt (tyX d) yX2_copyRow wz_k295_X2_copyRow ({ frames := 0, cells := 0, slots := 0, locals := 0 } : Room) [.ref (q 38), .ref (q 50), .int z2, .ref (q 39), .int z4] (wX q d I A) (fun v _ w' => ∃ (I' : Nat → Int32) (A' : Nat → Nat → Int32), Md [] I I' ∧ Md [21] A A' ∧ IvX I' A' ∧ FE (fX2_copyRow_2 I A z2 z4) (0, I', A') ∧ v = none ∧ w' = wX q d I' A') 0 0 := by
  refine GM.of (cc := cX2_copyRow) (maxL := 6) (ret := none) (own := RX2) (lv := [(0, .ref (q 38)), (1, .ref (q 50)), (2, .int z2), (3, .ref (q 39)), (4, .int z4)]) (by decide) rfl rfl (Nat.le_of_ble_eq_true rfl) rfl (fun κ sz hk hR hN => ?_)
  have hin2 : ∀ w ∈ u_ws RX2 TX2 10, w ∈ wz_k295_X2_copyRow := fun w h => (List.mem_cons_of_mem _ (List.mem_append_right _ (List.mem_append_left _ h)))
  have hF : FE (fX2_copyRow_2 I A z2 z4) (fX2_copyRow_2 I A z2 z4) := FE.rf
  refine g_iload_n hk dX2_copyRow_0 rfl ?_
  have b9136l := Int32.le_toInt z2
  have b9136h := Int32.toInt_lt z2
  refine g_if_lt (tgt := 32) (a := z2.toInt) hk dX2_copyRow_1 (by decide) rfl (fun c9137 => ?_) (fun c9137 => ?_)
  · skip
    replace hF := FE.pos hF c9137
    exact g_vret hk hR ⟨I, A, (show Md [] I I from Md.rf), (show Md [21] A A from Md.rf), hIv, hF, rfl, rfl⟩ dX2_copyRow_32
  · skip
    replace hF := FE.neg hF c9137
    refine g_iload hk dX2_copyRow_4 rfl ?_
    have b9138l := Int32.le_toInt z4
    have b9138h := Int32.toInt_lt z4
    refine g_if_lt (tgt := 32) (a := z4.toInt) hk dX2_copyRow_6 (by decide) rfl (fun c9139 => ?_) (fun c9139 => ?_)
    · skip
      replace hF := FE.pos hF c9139
      exact g_vret hk hR ⟨I, A, (show Md [] I I from Md.rf), (show Md [21] A A from Md.rf), hIv, hF, rfl, rfl⟩ dX2_copyRow_32
    · skip
      replace hF := FE.neg hF c9139
      refine g_aload_n hk dX2_copyRow_9 rfl ?_
      refine gX_i30 (v := (I 30)) hk hin2 (List.mem_cons_of_mem _ (List.mem_append_left _ (List.mem_of_getElem? (i := 0) rfl))) dX2_copyRow_10 rfl ?_
      have f9140 := IvX_f30 hIv
      refine g_aload_n hk dX2_copyRow_13 rfl ?_
      refine nX_30 hk dX2_copyRow_14 ?_
      refine g_iload_n hk dX2_copyRow_15 rfl ?_
      refine g_isub hk dX2_copyRow_16 ?_
      refine g_topi (fun y9141 ey9141 => ?_)
      replace hF := FE.lt hF ey9141
      have hy9141 : y9141.toInt = 2560 - z2.toInt := i32_sub ey9141 rfl rfl (by omega) (by omega)
      refine g_icmp_gt (tgt := 32) (a := (I 30).toInt) (b := y9141.toInt) hk dX2_copyRow_17 (by decide) rfl rfl (fun c9142 => ?_) (fun c9142 => ?_)
      · skip
        replace hF := FE.pos hF c9142
        exact g_vret hk hR ⟨I, A, (show Md [] I I from Md.rf), (show Md [21] A A from Md.rf), hIv, hF, rfl, rfl⟩ dX2_copyRow_32
      · skip
        replace hF := FE.neg hF c9142
        refine g_aload_n hk dX2_copyRow_20 rfl ?_
        refine gX_i30 (v := (I 30)) hk hin2 (List.mem_cons_of_mem _ (List.mem_append_left _ (List.mem_of_getElem? (i := 0) rfl))) dX2_copyRow_21 rfl ?_
        refine g_aload_n hk dX2_copyRow_24 rfl ?_
        refine nX_21 hk dX2_copyRow_25 ?_
        refine g_iload hk dX2_copyRow_26 rfl ?_
        refine g_isub hk dX2_copyRow_28 ?_
        refine g_topi (fun y9143 ey9143 => ?_)
        replace hF := FE.lt hF ey9143
        have hy9143 : y9143.toInt = 16 - z4.toInt := i32_sub ey9143 rfl rfl (by omega) (by omega)
        refine g_icmp_le (tgt := 33) (a := (I 30).toInt) (b := y9143.toInt) hk dX2_copyRow_29 (by decide) rfl rfl (fun c9144 => ?_) (fun c9144 => ?_)
        · skip
          replace hF := FE.pos hF c9144
          refine g_iconst (v := 0) hk dX2_copyRow_33 (by decide) ?_
          refine g_istore (lv' := [(5, .int 0), (0, .ref (q 38)), (1, .ref (q 50)), (2, .int z2), (3, .ref (q 39)), (4, .int z4)]) hk dX2_copyRow_34 (by decide) rfl ?_
          have lp9169 : ∀ (n9170 : Nat) (x9145 : Int32) (I9151 : Nat → Int32) (A9151 : Nat → Nat → Int32), (Md [] I I9151) → (Md [21] A A9151) → (IvX I9151 A9151) → (0 ≤ x9145.toInt) → (x9145.toInt ≤ 16) → (17 - x9145.toInt < (n9170 : Int)) → (0 < n9170) → (FE (fX2_copyRow_2 I A z2 z4) (itr_iIA dfX (bX2_copyRow_2_36 I z4 z2 A) n9170 x9145 I9151 A9151)) → GW κ 6 0 0 (wX q d I9151 A9151) 36 [(5, .int x9145), (0, .ref (q 38)), (1, .ref (q 50)), (2, .int z2), (3, .ref (q 39)), (4, .int z4)] [] := by
            intro n9170
            induction n9170 with
            | zero =>
              intro x9145 I9151 A9151 hI9151 hA9151 hV9151 h9167 h9168 m9171 m9171z hF
              exact absurd m9171z (Nat.lt_irrefl 0)
            | succ n9170 ih9173 =>
              intro x9145 I9151 A9151 hI9151 hA9151 hV9151 h9167 h9168 m9171 m9171z hF
              replace hF := FE.itr_iIA hF
              refine g_iload hk dX2_copyRow_36 rfl ?_
              refine g_aload_n hk dX2_copyRow_38 rfl ?_
              refine gX_i30 (v := (I 30)) hk hin2 (List.mem_cons_of_mem _ (List.mem_append_left _ (List.mem_of_getElem? (i := 0) rfl))) dX2_copyRow_39 (hI9151 30 rfl) ?_
              refine g_icmp_ge (tgt := 64) (a := x9145.toInt) (b := (I 30).toInt) hk dX2_copyRow_42 (by decide) rfl rfl (fun c9174 => ?_) (fun c9174 => ?_)
              · skip
                replace hF := FE.pos hF c9174
                exact g_vret hk hR ⟨I9151, A9151, (show Md [] I I9151 from (Md.tr Md.rf hI9151 rfl)), (show Md [21] A A9151 from (Md.tr Md.rf hA9151 rfl)), hV9151, hF, rfl, rfl⟩ dX2_copyRow_64
              · skip
                replace hF := FE.neg hF c9174
                refine g_aload_n hk dX2_copyRow_45 rfl ?_
                refine g_iload hk dX2_copyRow_46 rfl ?_
                refine g_iload hk dX2_copyRow_48 rfl ?_
                refine g_iadd hk dX2_copyRow_50 ?_
                refine g_topi (fun y9175 ey9175 => ?_)
                replace hF := FE.lt hF ey9175
                have hy9175 : y9175.toInt = z4.toInt + x9145.toInt := i32_add ey9175 rfl rfl (by omega) (by omega)
                refine g_aload_n hk dX2_copyRow_51 rfl ?_
                refine g_iload_n hk dX2_copyRow_52 rfl ?_
                refine g_iload hk dX2_copyRow_53 rfl ?_
                refine g_iadd hk dX2_copyRow_55 ?_
                refine g_topi (fun y9176 ey9176 => ?_)
                replace hF := FE.lt hF ey9176
                have hy9176 : y9176.toInt = z2.toInt + x9145.toInt := i32_add ey9176 rfl rfl (by omega) (by omega)
                refine lX_30 (v := (A 30 y9176.toNatClampNeg)) hk (vp_in_iff.mpr ⟨by omega, by omega⟩) (congrFun (hA9151 30 rfl) _) dX2_copyRow_56 ?_
                refine sX_21 (j := y9175.toNatClampNeg) hk (vp_in_iff.mpr ⟨by omega, by omega⟩) rfl dX2_copyRow_57 ?_
                obtain ⟨y9177, ey9177⟩ : ∃ y : Int32, y = x9145 + Int32.ofInt 1 := ⟨_, rfl⟩
                replace hF := FE.lt hF ey9177
                have hy9177 : y9177.toInt = x9145.toInt + 1 := i32_add ey9177 rfl (by decide) (by omega) (by omega)
                refine g_iinc (v := y9177) (lv' := [(5, .int y9177), (0, .ref (q 38)), (1, .ref (q 50)), (2, .int z2), (3, .ref (q 39)), (4, .int z4)]) hk 0 dX2_copyRow_58 rfl ey9177.symm (by decide) rfl ?_
                refine g_goto (tgt := 36) hk dX2_copyRow_61 (by decide) ?_
                exact g_lv (List.forall_mem_cons.mpr ⟨List.mem_of_getElem? (i := 0) rfl, (List.forall_mem_cons.mpr ⟨List.mem_of_getElem? (i := 1) rfl, (List.forall_mem_cons.mpr ⟨List.mem_of_getElem? (i := 2) rfl, (List.forall_mem_cons.mpr ⟨List.mem_of_getElem? (i := 3) rfl, (List.forall_mem_cons.mpr ⟨List.mem_of_getElem? (i := 4) rfl, (List.forall_mem_cons.mpr ⟨List.mem_of_getElem? (i := 5) rfl, (fun _ h => absurd h List.not_mem_nil)⟩)⟩)⟩)⟩)⟩)⟩) (ih9173 y9177 I9151 (up3 A9151 21 (y9175.toNatClampNeg) (A 30 y9176.toNatClampNeg)) (show Md [] I I9151 from Md.tr hI9151 (show Md [] I9151 I9151 from Md.rf) rfl) (show Md [21] A (up3 A9151 21 (y9175.toNatClampNeg) (A 30 y9176.toNatClampNeg)) from Md.tr hA9151 (show Md [21] A9151 (up3 A9151 21 (y9175.toNatClampNeg) (A 30 y9176.toNatClampNeg)) from (Md.up3 Md.rf rfl)) rfl) ⟨(IvX_f0 (I := I9151) (A := A9151) hV9151), (IvX_f18 (I := I9151) (A := A9151) hV9151), (IvX_f30 (I := I9151) (A := A9151) hV9151), (IvX_f31 (I := I9151) (A := A9151) hV9151), (IvX_a4 (I := I9151) (A := A9151) hV9151), (IvX_a9 (I := I9151) (A := A9151) hV9151), trivial⟩ (by omega) (by omega) (by omega) (by omega) hF)
          have k9179 : (0 : Int32).toInt = 0 := rfl
          have n9178a : 17 - 0 < (FU : Int) := by have := FU_eq; omega
          have n9178b : 0 < FU := by have := FU_eq; omega
          exact lp9169 FU 0 I A Md.rf Md.rf hIv (by omega) (by omega) n9178a n9178b hF
        · skip
          replace hF := FE.neg hF c9144
          exact g_vret hk hR ⟨I, A, (show Md [] I I from Md.rf), (show Md [21] A A from Md.rf), hIv, hF, rfl, rfl⟩ dX2_copyRow_32
noncomputable def fX2_takeLeft (I : Nat → Int32) (A : Nat → Nat → Int32) (z2 : Int32) : Int32 × (Nat → Int32) × (Nat → Nat → Int32) := f_bdX (fX2_copyRow_2 I A z2 0) fun _ I9182 A9182 => (0, I9182, A9182)
def wz_k297_X2_takeLeft : List Cond := .code yX2_takeLeft cX2_takeLeft 3 none :: (wo_k294_X2_giveLeft ++ (wsX20 ++ (wz_k295_X2_copyRow ++ ([] : List Cond))))
theorem zg_k297_X2_takeLeft : ∀ w ∈ wz_k297_X2_takeLeft, goodWord w = true := zg_cons rfl (zg_app (by decide +kernel) (zg_app zgU_wsX20 (zg_app zg_k295_X2_copyRow zg_nil)))
theorem zi_k297_X2_takeLeft : ∀ w ∈ wz_k297_X2_takeLeft, w ∈ lw_tbl := zi_cons zw_1277 (zi_app (zi_cons zw_334 (zi_cons zw_1265 (zi_cons zw_1267 (zi_cons zw_40 (zi_cons zw_112 zi_nil))))) (zi_app inX2 (zi_app zi_k295_X2_copyRow zi_nil)))
set_option maxHeartbeats 4000000 in
set_option maxRecDepth 100000 in
theorem k297_X2_takeLeft (l : Launch) (D : va_G) (zt : Nat × Nat × Nat × (Nat → Nat) × (Nat → Nat)) (q : Nat → Nat) (d : Nat → ClassId) (I : Nat → Int32) (A : Nat → Nat → Int32) (z2 : Int32) (hIv : IvX I A) : GM l D zt (tyX d) yX2_takeLeft wz_k297_X2_takeLeft ({ frames := 1, cells := 0, slots := 0, locals := 25 } : Room) [.ref (q 38), .ref (q 50), .int z2] (wX q d I A) (fun v _ w' => ∃ (I' : Nat → Int32) (A' : Nat → Nat → Int32), Md [] I I' ∧ Md [21] A A' ∧ IvX I' A' ∧ FE (fX2_takeLeft I A z2) (0, I', A') ∧ v = none ∧ w' = wX q d I' A') 0 0 := by
  refine GM.of (cc := cX2_takeLeft) (maxL := 3) (ret := none) (own := RX2) (lv := [(0, .ref (q 38)), (1, .ref (q 50)), (2, .int z2)]) (by decide) rfl rfl (Nat.le_of_ble_eq_true rfl) rfl (fun κ sz hk hR hN => ?_)
  have hin2 : ∀ w ∈ u_ws RX2 TX2 10, w ∈ wz_k297_X2_takeLeft := fun w h => (List.mem_cons_of_mem _ (List.mem_append_right _ (List.mem_append_left _ h)))
  have hF : FE (fX2_takeLeft I A z2) (fX2_takeLeft I A z2) := FE.rf
  refine g_aload_n hk dX2_takeLeft_0 rfl ?_
  refine g_aload_n hk dX2_takeLeft_1 rfl ?_
  refine g_iload_n hk dX2_takeLeft_2 rfl ?_
  refine g_aload_n hk dX2_takeLeft_3 rfl ?_
  refine gX_r38_0 hk hin2 (List.mem_cons_of_mem _ (List.mem_append_left _ (List.mem_of_getElem? (i := 0) rfl))) dX2_takeLeft_4 ?_
  refine g_iconst (v := 0) hk dX2_takeLeft_7 (by decide) ?_
  have k9180 : (0 : Int32).toInt = 0 := rfl
  refine g_callV (n := 4) hk (k298_X2_copyRow l D zt q d I A z2 0 hIv) (SP.same _) (fun _ h => h) (gi_V (List.mem_cons_of_mem _ (List.mem_append_left _ (List.mem_of_getElem? (i := 1) rfl))) (List.mem_cons_of_mem _ (List.mem_append_left _ (List.mem_of_getElem? (i := 2) rfl))) (List.mem_cons_of_mem _ (List.mem_append_left _ (List.mem_of_getElem? (i := 3) rfl))) (List.mem_cons_of_mem _ (List.mem_append_left _ (List.mem_of_getElem? (i := 4) rfl))) (gi_sub (fun w h => (List.mem_cons_of_mem _ (List.mem_append_right _ (List.mem_append_right _ (List.mem_append_left _ h))))) zg_k295_X2_copyRow)) rfl rfl rfl (by decide +kernel) ⟨Nat.le_of_ble_eq_true rfl, Nat.le_of_ble_eq_true rfl⟩ 38 rfl rfl rfl rfl (Nat.le_of_ble_eq_true rfl) ⟨Nat.le_of_ble_eq_true rfl, Nat.le_of_ble_eq_true rfl⟩ dX2_takeLeft_8 (fun v ty' w' hp hk' => ?_)
  obtain ⟨I9182, A9182, hI9182, hA9182, hV9182, hC, rfl, rfl⟩ := hp
  replace hF := FE.bdX hF hC
  show GW κ 3 0 0 (wX q d I9182 A9182) 11 [(0, .ref (q 38)), (1, .ref (q 50)), (2, .int z2)] []
  exact g_vret hk hR ⟨I9182, A9182, (show Md [] I I9182 from (Md.tr Md.rf hI9182 rfl)), (show Md [21] A A9182 from (Md.tr Md.rf hA9182 rfl)), hV9182, hF, rfl, rfl⟩ dX2_takeLeft_11
noncomputable def bX2_copyRow_3_36 (I : Nat → Int32) (z4 : Int32) (z2 : Int32) (A : Nat → Nat → Int32) : (Int32 → (Nat → Int32) → (Nat → Nat → Int32) → (Int32 × (Nat → Int32) × (Nat → Nat → Int32))) → Int32 → (Nat → Int32) → (Nat → Nat → Int32) → (Int32 × (Nat → Int32) × (Nat → Nat → Int32)) := fun kk9238 x9211 I9217 A9217 => if (I 30).toInt ≤ x9211.toInt then (0, I9217, A9217) else f_lt (z4 + x9211) fun y9241 => f_lt (z2 + x9211) fun y9242 => f_lt (x9211 + Int32.ofInt 1) fun y9243 => kk9238 y9243 I9217 (up3 A9217 22 (y9241.toNatClampNeg) (A 30 y9242.toNatClampNeg))
noncomputable def fX2_copyRow_3 (I : Nat → Int32) (A : Nat → Nat → Int32) (z2 : Int32) (z4 : Int32) : Int32 × (Nat → Int32) × (Nat → Nat → Int32) := if z2.toInt < 0 then (0, I, A) else if z4.toInt < 0 then (0, I, A) else f_lt ((2560 : Int32) - z2) fun y9207 => if y9207.toInt < (I 30).toInt then (0, I, A) else f_lt ((16 : Int32) - z4) fun y9209 => if (I 30).toInt ≤ y9209.toInt then itr_iIA dfX (bX2_copyRow_3_36 I z4 z2 A) FU 0 I A else (0, I, A)
set_option maxHeartbeats 4000000 in
set_option maxRecDepth 100000 in
theorem k300_X2_copyRow (l : Launch) (D : va_G) (zt : Nat × Nat × Nat × (Nat → Nat) × (Nat → Nat)) (q : Nat → Nat) (d : Nat → ClassId) (I : Nat → Int32) (A : Nat → Nat → Int32) (z2 : Int32) (z4 : Int32) (hIv : IvX I A) : GM l D zt (tyX d) yX2_copyRow wz_k295_X2_copyRow ({ frames := 0, cells := 0, slots := 0, locals := 0 } : Room) [.ref (q 38), .ref (q 50), .int z2, .ref (q 40), .int z4] (wX q d I A) (fun v _ w' => ∃ (I' : Nat → Int32) (A' : Nat → Nat → Int32), Md [] I I' ∧ Md [22] A A' ∧ IvX I' A' ∧ FE (fX2_copyRow_3 I A z2 z4) (0, I', A') ∧ v = none ∧ w' = wX q d I' A') 0 0 := by
  refine GM.of (cc := cX2_copyRow) (maxL := 6) (ret := none) (own := RX2) (lv := [(0, .ref (q 38)), (1, .ref (q 50)), (2, .int z2), (3, .ref (q 40)), (4, .int z4)]) (by decide) rfl rfl (Nat.le_of_ble_eq_true rfl) rfl (fun κ sz hk hR hN => ?_)
  have hin2 : ∀ w ∈ u_ws RX2 TX2 10, w ∈ wz_k295_X2_copyRow := fun w h => (List.mem_cons_of_mem _ (List.mem_append_right _ (List.mem_append_left _ h)))
  have hF : FE (fX2_copyRow_3 I A z2 z4) (fX2_copyRow_3 I A z2 z4) := FE.rf
  refine g_iload_n hk dX2_copyRow_0 rfl ?_
  have b9202l := Int32.le_toInt z2
  have b9202h := Int32.toInt_lt z2
  refine g_if_lt (tgt := 32) (a := z2.toInt) hk dX2_copyRow_1 (by decide) rfl (fun c9203 => ?_) (fun c9203 => ?_)
  · skip
    replace hF := FE.pos hF c9203
    exact g_vret hk hR ⟨I, A, (show Md [] I I from Md.rf), (show Md [22] A A from Md.rf), hIv, hF, rfl, rfl⟩ dX2_copyRow_32
  · skip
    replace hF := FE.neg hF c9203
    refine g_iload hk dX2_copyRow_4 rfl ?_
    have b9204l := Int32.le_toInt z4
    have b9204h := Int32.toInt_lt z4
    refine g_if_lt (tgt := 32) (a := z4.toInt) hk dX2_copyRow_6 (by decide) rfl (fun c9205 => ?_) (fun c9205 => ?_)
    · skip
      replace hF := FE.pos hF c9205
      exact g_vret hk hR ⟨I, A, (show Md [] I I from Md.rf), (show Md [22] A A from Md.rf), hIv, hF, rfl, rfl⟩ dX2_copyRow_32
    · skip
      replace hF := FE.neg hF c9205
      refine g_aload_n hk dX2_copyRow_9 rfl ?_
      refine gX_i30 (v := (I 30)) hk hin2 (List.mem_cons_of_mem _ (List.mem_append_left _ (List.mem_of_getElem? (i := 0) rfl))) dX2_copyRow_10 rfl ?_
      have f9206 := IvX_f30 hIv
      refine g_aload_n hk dX2_copyRow_13 rfl ?_
      refine nX_30 hk dX2_copyRow_14 ?_
      refine g_iload_n hk dX2_copyRow_15 rfl ?_
      refine g_isub hk dX2_copyRow_16 ?_
      refine g_topi (fun y9207 ey9207 => ?_)
      replace hF := FE.lt hF ey9207
      have hy9207 : y9207.toInt = 2560 - z2.toInt := i32_sub ey9207 rfl rfl (by omega) (by omega)
      refine g_icmp_gt (tgt := 32) (a := (I 30).toInt) (b := y9207.toInt) hk dX2_copyRow_17 (by decide) rfl rfl (fun c9208 => ?_) (fun c9208 => ?_)
      · skip
        replace hF := FE.pos hF c9208
        exact g_vret hk hR ⟨I, A, (show Md [] I I from Md.rf), (show Md [22] A A from Md.rf), hIv, hF, rfl, rfl⟩ dX2_copyRow_32
      · skip
        replace hF := FE.neg hF c9208
        refine g_aload_n hk dX2_copyRow_20 rfl ?_
        refine gX_i30 (v := (I 30)) hk hin2 (List.mem_cons_of_mem _ (List.mem_append_left _ (List.mem_of_getElem? (i := 0) rfl))) dX2_copyRow_21 rfl ?_
        refine g_aload_n hk dX2_copyRow_24 rfl ?_
        refine nX_22 hk dX2_copyRow_25 ?_
        refine g_iload hk dX2_copyRow_26 rfl ?_
        refine g_isub hk dX2_copyRow_28 ?_
        refine g_topi (fun y9209 ey9209 => ?_)
        replace hF := FE.lt hF ey9209
        have hy9209 : y9209.toInt = 16 - z4.toInt := i32_sub ey9209 rfl rfl (by omega) (by omega)
        refine g_icmp_le (tgt := 33) (a := (I 30).toInt) (b := y9209.toInt) hk dX2_copyRow_29 (by decide) rfl rfl (fun c9210 => ?_) (fun c9210 => ?_)
        · skip
          replace hF := FE.pos hF c9210
          refine g_iconst (v := 0) hk dX2_copyRow_33 (by decide) ?_
          refine g_istore (lv' := [(5, .int 0), (0, .ref (q 38)), (1, .ref (q 50)), (2, .int z2), (3, .ref (q 40)), (4, .int z4)]) hk dX2_copyRow_34 (by decide) rfl ?_
          have lp9235 : ∀ (n9236 : Nat) (x9211 : Int32) (I9217 : Nat → Int32) (A9217 : Nat → Nat → Int32), (Md [] I I9217) → (Md [22] A A9217) → (IvX I9217 A9217) → (0 ≤ x9211.toInt) → (x9211.toInt ≤ 16) → (17 - x9211.toInt < (n9236 : Int)) → (0 < n9236) → (FE (fX2_copyRow_3 I A z2 z4) (itr_iIA dfX (bX2_copyRow_3_36 I z4 z2 A) n9236 x9211 I9217 A9217)) → GW κ 6 0 0 (wX q d I9217 A9217) 36 [(5, .int x9211), (0, .ref (q 38)), (1, .ref (q 50)), (2, .int z2), (3, .ref (q 40)), (4, .int z4)] [] := by
            intro n9236
            induction n9236 with
            | zero =>
              intro x9211 I9217 A9217 hI9217 hA9217 hV9217 h9233 h9234 m9237 m9237z hF
              exact absurd m9237z (Nat.lt_irrefl 0)
            | succ n9236 ih9239 =>
              intro x9211 I9217 A9217 hI9217 hA9217 hV9217 h9233 h9234 m9237 m9237z hF
              replace hF := FE.itr_iIA hF
              refine g_iload hk dX2_copyRow_36 rfl ?_
              refine g_aload_n hk dX2_copyRow_38 rfl ?_
              refine gX_i30 (v := (I 30)) hk hin2 (List.mem_cons_of_mem _ (List.mem_append_left _ (List.mem_of_getElem? (i := 0) rfl))) dX2_copyRow_39 (hI9217 30 rfl) ?_
              refine g_icmp_ge (tgt := 64) (a := x9211.toInt) (b := (I 30).toInt) hk dX2_copyRow_42 (by decide) rfl rfl (fun c9240 => ?_) (fun c9240 => ?_)
              · skip
                replace hF := FE.pos hF c9240
                exact g_vret hk hR ⟨I9217, A9217, (show Md [] I I9217 from (Md.tr Md.rf hI9217 rfl)), (show Md [22] A A9217 from (Md.tr Md.rf hA9217 rfl)), hV9217, hF, rfl, rfl⟩ dX2_copyRow_64
              · skip
                replace hF := FE.neg hF c9240
                refine g_aload_n hk dX2_copyRow_45 rfl ?_
                refine g_iload hk dX2_copyRow_46 rfl ?_
                refine g_iload hk dX2_copyRow_48 rfl ?_
                refine g_iadd hk dX2_copyRow_50 ?_
                refine g_topi (fun y9241 ey9241 => ?_)
                replace hF := FE.lt hF ey9241
                have hy9241 : y9241.toInt = z4.toInt + x9211.toInt := i32_add ey9241 rfl rfl (by omega) (by omega)
                refine g_aload_n hk dX2_copyRow_51 rfl ?_
                refine g_iload_n hk dX2_copyRow_52 rfl ?_
                refine g_iload hk dX2_copyRow_53 rfl ?_
                refine g_iadd hk dX2_copyRow_55 ?_
                refine g_topi (fun y9242 ey9242 => ?_)
                replace hF := FE.lt hF ey9242
                have hy9242 : y9242.toInt = z2.toInt + x9211.toInt := i32_add ey9242 rfl rfl (by omega) (by omega)
                refine lX_30 (v := (A 30 y9242.toNatClampNeg)) hk (vp_in_iff.mpr ⟨by omega, by omega⟩) (congrFun (hA9217 30 rfl) _) dX2_copyRow_56 ?_
                refine sX_22 (j := y9241.toNatClampNeg) hk (vp_in_iff.mpr ⟨by omega, by omega⟩) rfl dX2_copyRow_57 ?_
                obtain ⟨y9243, ey9243⟩ : ∃ y : Int32, y = x9211 + Int32.ofInt 1 := ⟨_, rfl⟩
                replace hF := FE.lt hF ey9243
                have hy9243 : y9243.toInt = x9211.toInt + 1 := i32_add ey9243 rfl (by decide) (by omega) (by omega)
                refine g_iinc (v := y9243) (lv' := [(5, .int y9243), (0, .ref (q 38)), (1, .ref (q 50)), (2, .int z2), (3, .ref (q 40)), (4, .int z4)]) hk 0 dX2_copyRow_58 rfl ey9243.symm (by decide) rfl ?_
                refine g_goto (tgt := 36) hk dX2_copyRow_61 (by decide) ?_
                exact g_lv (List.forall_mem_cons.mpr ⟨List.mem_of_getElem? (i := 0) rfl, (List.forall_mem_cons.mpr ⟨List.mem_of_getElem? (i := 1) rfl, (List.forall_mem_cons.mpr ⟨List.mem_of_getElem? (i := 2) rfl, (List.forall_mem_cons.mpr ⟨List.mem_of_getElem? (i := 3) rfl, (List.forall_mem_cons.mpr ⟨List.mem_of_getElem? (i := 4) rfl, (List.forall_mem_cons.mpr ⟨List.mem_of_getElem? (i := 5) rfl, (fun _ h => absurd h List.not_mem_nil)⟩)⟩)⟩)⟩)⟩)⟩) (ih9239 y9243 I9217 (up3 A9217 22 (y9241.toNatClampNeg) (A 30 y9242.toNatClampNeg)) (show Md [] I I9217 from Md.tr hI9217 (show Md [] I9217 I9217 from Md.rf) rfl) (show Md [22] A (up3 A9217 22 (y9241.toNatClampNeg) (A 30 y9242.toNatClampNeg)) from Md.tr hA9217 (show Md [22] A9217 (up3 A9217 22 (y9241.toNatClampNeg) (A 30 y9242.toNatClampNeg)) from (Md.up3 Md.rf rfl)) rfl) ⟨(IvX_f0 (I := I9217) (A := A9217) hV9217), (IvX_f18 (I := I9217) (A := A9217) hV9217), (IvX_f30 (I := I9217) (A := A9217) hV9217), (IvX_f31 (I := I9217) (A := A9217) hV9217), (IvX_a4 (I := I9217) (A := A9217) hV9217), (IvX_a9 (I := I9217) (A := A9217) hV9217), trivial⟩ (by omega) (by omega) (by omega) (by omega) hF)
          have k9245 : (0 : Int32).toInt = 0 := rfl
          have n9244a : 17 - 0 < (FU : Int) := by have := FU_eq; omega
          have n9244b : 0 < FU := by have := FU_eq; omega
          exact lp9235 FU 0 I A Md.rf Md.rf hIv (by omega) (by omega) n9244a n9244b hF
        · skip
          replace hF := FE.neg hF c9210
          exact g_vret hk hR ⟨I, A, (show Md [] I I from Md.rf), (show Md [22] A A from Md.rf), hIv, hF, rfl, rfl⟩ dX2_copyRow_32
noncomputable def fX2_takeRight (I : Nat → Int32) (A : Nat → Nat → Int32) (z2 : Int32) : Int32 × (Nat → Int32) × (Nat → Nat → Int32) := f_bdX (fX2_copyRow_3 I A z2 0) fun _ I9248 A9248 => (0, I9248, A9248)
def wo_k299_X2_takeRight : List Cond := [Cond.fieldLink RX2 15 "WarpDesk$Fit" "right" "[I", Cond.methodLink RX2 46 yX2_copyRow, Cond.instanceMethod yX2_copyRow, Cond.selects RX2 yX2_copyRow yX2_copyRow, Cond.initialized RX2]
def wz_k299_X2_takeRight : List Cond := .code yX2_takeRight cX2_takeRight 3 none :: (wo_k299_X2_takeRight ++ (wsX20 ++ (wz_k295_X2_copyRow ++ ([] : List Cond))))
theorem zg_k299_X2_takeRight : ∀ w ∈ wz_k299_X2_takeRight, goodWord w = true := zg_cons rfl (zg_app (by decide +kernel) (zg_app zgU_wsX20 (zg_app zg_k295_X2_copyRow zg_nil)))
theorem zi_k299_X2_takeRight : ∀ w ∈ wz_k299_X2_takeRight, w ∈ lw_tbl := zi_cons zw_1282 (zi_app (zi_cons zw_337 (zi_cons zw_1265 (zi_cons zw_1267 (zi_cons zw_40 (zi_cons zw_112 zi_nil))))) (zi_app inX2 (zi_app zi_k295_X2_copyRow zi_nil)))
set_option maxHeartbeats 4000000 in
set_option maxRecDepth 100000 in
theorem k299_X2_takeRight (l : Launch) (D : va_G) (zt : Nat × Nat × Nat × (Nat → Nat) × (Nat → Nat)) (q : Nat → Nat) (d : Nat → ClassId) (I : Nat → Int32) (A : Nat → Nat → Int32) (z2 : Int32) (hIv : IvX I A) : GM l D zt (tyX d) yX2_takeRight wz_k299_X2_takeRight ({ frames := 1, cells := 0, slots := 0, locals := 25 } : Room) [.ref (q 38), .ref (q 50), .int z2] (wX q d I A) (fun v _ w' => ∃ (I' : Nat → Int32) (A' : Nat → Nat → Int32), Md [] I I' ∧ Md [22] A A' ∧ IvX I' A' ∧ FE (fX2_takeRight I A z2) (0, I', A') ∧ v = none ∧ w' = wX q d I' A') 0 0 := by
  refine GM.of (cc := cX2_takeRight) (maxL := 3) (ret := none) (own := RX2) (lv := [(0, .ref (q 38)), (1, .ref (q 50)), (2, .int z2)]) (by decide) rfl rfl (Nat.le_of_ble_eq_true rfl) rfl (fun κ sz hk hR hN => ?_)
  have hin2 : ∀ w ∈ u_ws RX2 TX2 10, w ∈ wz_k299_X2_takeRight := fun w h => (List.mem_cons_of_mem _ (List.mem_append_right _ (List.mem_append_left _ h)))
  have hF : FE (fX2_takeRight I A z2) (fX2_takeRight I A z2) := FE.rf
  refine g_aload_n hk dX2_takeRight_0 rfl ?_
  refine g_aload_n hk dX2_takeRight_1 rfl ?_
  refine g_iload_n hk dX2_takeRight_2 rfl ?_
  refine g_aload_n hk dX2_takeRight_3 rfl ?_
  refine gX_r38_1 hk hin2 (List.mem_cons_of_mem _ (List.mem_append_left _ (List.mem_of_getElem? (i := 0) rfl))) dX2_takeRight_4 ?_
  refine g_iconst (v := 0) hk dX2_takeRight_7 (by decide) ?_
  have k9246 : (0 : Int32).toInt = 0 := rfl
  refine g_callV (n := 4) hk (k300_X2_copyRow l D zt q d I A z2 0 hIv) (SP.same _) (fun _ h => h) (gi_V (List.mem_cons_of_mem _ (List.mem_append_left _ (List.mem_of_getElem? (i := 1) rfl))) (List.mem_cons_of_mem _ (List.mem_append_left _ (List.mem_of_getElem? (i := 2) rfl))) (List.mem_cons_of_mem _ (List.mem_append_left _ (List.mem_of_getElem? (i := 3) rfl))) (List.mem_cons_of_mem _ (List.mem_append_left _ (List.mem_of_getElem? (i := 4) rfl))) (gi_sub (fun w h => (List.mem_cons_of_mem _ (List.mem_append_right _ (List.mem_append_right _ (List.mem_append_left _ h))))) zg_k295_X2_copyRow)) rfl rfl rfl (by decide +kernel) ⟨Nat.le_of_ble_eq_true rfl, Nat.le_of_ble_eq_true rfl⟩ 38 rfl rfl rfl rfl (Nat.le_of_ble_eq_true rfl) ⟨Nat.le_of_ble_eq_true rfl, Nat.le_of_ble_eq_true rfl⟩ dX2_takeRight_8 (fun v ty' w' hp hk' => ?_)
  obtain ⟨I9248, A9248, hI9248, hA9248, hV9248, hC, rfl, rfl⟩ := hp
  replace hF := FE.bdX hF hC
  show GW κ 3 0 0 (wX q d I9248 A9248) 11 [(0, .ref (q 38)), (1, .ref (q 50)), (2, .int z2)] []
  exact g_vret hk hR ⟨I9248, A9248, (show Md [] I I9248 from (Md.tr Md.rf hI9248 rfl)), (show Md [22] A A9248 from (Md.tr Md.rf hA9248 rfl)), hV9248, hF, rfl, rfl⟩ dX2_takeRight_11
noncomputable def bX9_findNearest_34 (z3 : Int32) (A : Nat → Nat → Int32) (z1 : Int32) (z2 : Int32) : (Int32 → Int32 → (Nat → Int32) → (Nat → Nat → Int32) → (Int32 × (Nat → Int32) × (Nat → Nat → Int32))) → Int32 → Int32 → (Nat → Int32) → (Nat → Nat → Int32) → (Int32 × (Nat → Int32) × (Nat → Nat → Int32)) := fun kk9339 x9185 x9186 I9191 A9191 => if 160 ≤ x9185.toInt then (0, I9191, A9191) else if x9186.toInt ≤ z3.toInt then (0, I9191, A9191) else if (A 31 x9185.toNatClampNeg).toInt = 0 then f_lt (x9185 + Int32.ofInt 1) fun y9347 => kk9339 y9347 x9186 I9191 A9191 else f_lt (x9185 - z1) fun y9348 => f_lt (if 0 ≤ y9348 then y9348 else 0 - y9348) fun y9350 => if z2.toInt ≤ y9350.toInt then f_lt (x9185 * (16 : Int32)) fun y9354 => f_bdX (fX2_takeRight I9191 A9191 y9354) fun _ I9356 A9356 => f_bdX (fX2_isLess I9356 A9356 x9186) fun y9357 I9360 A9360 => if y9357.toInt = 0 then f_lt (x9185 + Int32.ofInt 1) fun y9362 => kk9339 y9362 x9186 I9360 A9360 else f_lt (fX2_laidDistance I9360 A9360) fun y9363 => f_lt (x9185 + Int32.ofInt 1) fun y9364 => kk9339 y9364 y9363 (upd (upd I9360 38 x9185) 39 y9363) A9360 else f_lt (x9185 + Int32.ofInt 1) fun y9365 => kk9339 y9365 x9186 I9191 A9191
noncomputable def fX9_findNearest (I : Nat → Int32) (A : Nat → Nat → Int32) (z1 : Int32) (z2 : Int32) (z3 : Int32) : Int32 × (Nat → Int32) × (Nat → Nat → Int32) := f_lt (z1 * (16 : Int32)) fun y9135 => f_bdX (fX2_takeLeft (upd (upd I 38 (-2)) 39 (-2)) A y9135) fun _ I9184 A9184 => itr_iiIA dfX (bX9_findNearest_34 z3 A z1 z2) FU 0 2147483647 I9184 A9184
def wo_k296_X9_findNearest : List Cond := [Cond.fieldLink RX9 58 "WarpDesk$Stretches" "nearest" "I", Cond.fieldLink RX9 62 "WarpDesk$Stretches" "nearestDistance" "I", Cond.constant RX9 65 (2147483647), Cond.fieldLink RX9 29 "WarpDesk$Stretches" "fit" "LWarpDesk$Fit;", Cond.fieldLink RX9 9 "WarpDesk$Stretches" "rows" "[I", Cond.methodLink RX9 66 yX2_takeLeft, Cond.instanceMethod yX2_takeLeft, Cond.selects RX2 yX2_takeLeft yX2_takeLeft, Cond.initialized RX2, Cond.fieldLink RX9 15 "WarpDesk$Stretches" "isThere" "[Z", Cond.methodLink RX9 69 Lib.Math.abs.name, Cond.static Lib.Math.abs.name, Cond.initialized "java/lang/Math", Cond.code Lib.Math.abs.name Lib.Math.abs.code 1 (some .int), Cond.methodLink RX9 75 yX2_takeRight, Cond.instanceMethod yX2_takeRight, Cond.selects RX2 yX2_takeRight yX2_takeRight, Cond.methodLink RX9 78 yX2_isLess, Cond.instanceMethod yX2_isLess, Cond.selects RX2 yX2_isLess yX2_isLess, Cond.methodLink RX9 82 yX2_laidDistance, Cond.instanceMethod yX2_laidDistance, Cond.selects RX2 yX2_laidDistance yX2_laidDistance]
def wz_k296_X9_findNearest : List Cond := .code yX9_findNearest cX9_findNearest 6 none :: (wo_k296_X9_findNearest ++ (wsX90 ++ (wz_k297_X2_takeLeft ++ (wz_k299_X2_takeRight ++ (wz_k264_X2_isLess ++ (wz_k237_X2_laidDistance ++ ([] : List Cond)))))))
theorem zg_k296_X9_findNearest : ∀ w ∈ wz_k296_X9_findNearest, goodWord w = true := zg_cons rfl (zg_app (by decide +kernel) (zg_app zgU_wsX90 (zg_app zg_k297_X2_takeLeft (zg_app zg_k299_X2_takeRight (zg_app zg_k264_X2_isLess (zg_app zg_k237_X2_laidDistance zg_nil))))))
theorem zi_k296_X9_findNearest : ∀ w ∈ wz_k296_X9_findNearest, w ∈ lw_tbl := zi_cons zw_1272 (zi_app (zi_cons zw_450 (zi_cons zw_452 (zi_cons zw_1273 (zi_cons zw_447 (zi_cons zw_448 (zi_cons zw_1274 (zi_cons zw_1275 (zi_cons zw_1276 (zi_cons zw_112 (zi_cons zw_449 (zi_cons zw_1278 (zi_cons zw_1076 (zi_cons zw_120 (zi_cons zw_1077 (zi_cons zw_1279 (zi_cons zw_1280 (zi_cons zw_1281 (zi_cons zw_1283 (zi_cons zw_1125 (zi_cons zw_1126 (zi_cons zw_1284 (zi_cons zw_1014 (zi_cons zw_1015 zi_nil))))))))))))))))))))))) (zi_app inX9 (zi_app zi_k297_X2_takeLeft (zi_app zi_k299_X2_takeRight (zi_app zi_k264_X2_isLess (zi_app zi_k237_X2_laidDistance zi_nil))))))
set_option maxHeartbeats 4000000 in
set_option maxRecDepth 100000 in
theorem k296_X9_findNearest (l : Launch) (D : va_G) (zt : Nat × Nat × Nat × (Nat → Nat) × (Nat → Nat)) (q : Nat → Nat) (d : Nat → ClassId) (I : Nat → Int32) (A : Nat → Nat → Int32) (z1 : Int32) (z2 : Int32) (z3 : Int32) (hIv : IvX I A) : GM l D zt (tyX d) yX9_findNearest wz_k296_X9_findNearest ({ frames := 4, cells := 0, slots := 0, locals := 93 } : Room) [.ref (q 49), .int z1, .int z2, .int z3] (wX q d I A) (fun v _ w' => ∃ (I' : Nat → Int32) (A' : Nat → Nat → Int32), Md [33, 34, 38, 39] I I' ∧ Md [21, 22, 23] A A' ∧ IvX I' A' ∧ FE (fX9_findNearest I A z1 z2 z3) (0, I', A') ∧ v = none ∧ w' = wX q d I' A') 0 0 := by
  refine GM.of (cc := cX9_findNearest) (maxL := 6) (ret := none) (own := RX9) (lv := [(0, .ref (q 49)), (1, .int z1), (2, .int z2), (3, .int z3)]) (by decide) rfl rfl (Nat.le_of_ble_eq_true rfl) rfl (fun κ sz hk hR hN => ?_)
  have hin9 : ∀ w ∈ u_ws RX9 TX9 11, w ∈ wz_k296_X9_findNearest := fun w h => (List.mem_cons_of_mem _ (List.mem_append_right _ (List.mem_append_left _ h)))
  have hF : FE (fX9_findNearest I A z1 z2 z3) (fX9_findNearest I A z1 z2 z3) := FE.rf
  refine g_aload_n hk dX9_findNearest_0 rfl ?_
  refine g_bipush (v := (-2)) hk dX9_findNearest_1 (by decide) ?_
  refine pX_i38 hk hin9 (List.mem_cons_of_mem _ (List.mem_append_left _ (List.mem_of_getElem? (i := 0) rfl))) dX9_findNearest_3 ?_
  refine g_aload_n hk dX9_findNearest_6 rfl ?_
  refine g_bipush (v := (-2)) hk dX9_findNearest_7 (by decide) ?_
  refine pX_i39 hk hin9 (List.mem_cons_of_mem _ (List.mem_append_left _ (List.mem_of_getElem? (i := 1) rfl))) dX9_findNearest_9 ?_
  refine g_ldc (v := 2147483647) hk (List.mem_cons_of_mem _ (List.mem_append_left _ (List.mem_of_getElem? (i := 2) rfl))) dX9_findNearest_12 ?_
  refine g_istore (lv' := [(4, .int 2147483647), (0, .ref (q 49)), (1, .int z1), (2, .int z2), (3, .int z3)]) hk dX9_findNearest_14 (by decide) rfl ?_
  refine g_aload_n hk dX9_findNearest_16 rfl ?_
  refine gX_r49_1 hk hin9 (List.mem_cons_of_mem _ (List.mem_append_left _ (List.mem_of_getElem? (i := 3) rfl))) dX9_findNearest_17 ?_
  refine g_aload_n hk dX9_findNearest_20 rfl ?_
  refine gX_r49_2 hk hin9 (List.mem_cons_of_mem _ (List.mem_append_left _ (List.mem_of_getElem? (i := 4) rfl))) dX9_findNearest_21 ?_
  refine g_iload_n hk dX9_findNearest_24 rfl ?_
  refine g_bipush (v := 16) hk dX9_findNearest_25 (by decide) ?_
  have b9134l := Int32.le_toInt z1
  have b9134h := Int32.toInt_lt z1
  refine g_imul hk dX9_findNearest_27 ?_
  refine g_topi (fun y9135 ey9135 => ?_)
  replace hF := FE.lt hF ey9135
  refine g_callV (n := 2) hk (k297_X2_takeLeft l D zt q d (upd (upd I 38 (-2)) 39 (-2)) A y9135 ⟨(IvX_f0 (I := I) (A := A) hIv), (IvX_f18 (I := I) (A := A) hIv), (IvX_f30 (I := I) (A := A) hIv), (IvX_f31 (I := I) (A := A) hIv), (IvX_a4 (I := I) (A := A) hIv), (IvX_a9 (I := I) (A := A) hIv), trivial⟩) (SP.same _) (fun _ h => h) (gi_V (List.mem_cons_of_mem _ (List.mem_append_left _ (List.mem_of_getElem? (i := 5) rfl))) (List.mem_cons_of_mem _ (List.mem_append_left _ (List.mem_of_getElem? (i := 6) rfl))) (List.mem_cons_of_mem _ (List.mem_append_left _ (List.mem_of_getElem? (i := 7) rfl))) (List.mem_cons_of_mem _ (List.mem_append_left _ (List.mem_of_getElem? (i := 8) rfl))) (gi_sub (fun w h => (List.mem_cons_of_mem _ (List.mem_append_right _ (List.mem_append_right _ (List.mem_append_left _ h))))) zg_k297_X2_takeLeft)) rfl rfl rfl (by decide +kernel) ⟨Nat.le_of_ble_eq_true rfl, Nat.le_of_ble_eq_true rfl⟩ 38 rfl rfl rfl rfl (Nat.le_of_ble_eq_true rfl) ⟨Nat.le_of_ble_eq_true rfl, Nat.le_of_ble_eq_true rfl⟩ dX9_findNearest_28 (fun v ty' w' hp hk' => ?_)
  obtain ⟨I9184, A9184, hI9184, hA9184, hV9184, hC, rfl, rfl⟩ := hp
  replace hF := FE.bdX hF hC
  show GW κ 6 0 0 (wX q d I9184 A9184) 31 [(4, .int 2147483647), (0, .ref (q 49)), (1, .int z1), (2, .int z2), (3, .int z3)] []
  refine g_iconst (v := 0) hk dX9_findNearest_31 (by decide) ?_
  refine g_istore (lv' := [(5, .int 0), (4, .int 2147483647), (0, .ref (q 49)), (1, .int z1), (2, .int z2), (3, .int z3)]) hk dX9_findNearest_32 (by decide) rfl ?_
  have lp9336 : ∀ (n9337 : Nat) (x9185 : Int32) (x9186 : Int32) (I9191 : Nat → Int32) (A9191 : Nat → Nat → Int32), (Md [33, 34, 38, 39] I9184 I9191) → (Md [22, 23] A9184 A9191) → (IvX I9191 A9191) → (0 ≤ x9185.toInt) → (x9185.toInt ≤ 160) → (161 - x9185.toInt < (n9337 : Int)) → (0 < n9337) → (FE (fX9_findNearest I A z1 z2 z3) (itr_iiIA dfX (bX9_findNearest_34 z3 A z1 z2) n9337 x9185 x9186 I9191 A9191)) → GW κ 6 0 0 (wX q d I9191 A9191) 34 [(5, .int x9185), (4, .int x9186), (0, .ref (q 49)), (1, .int z1), (2, .int z2), (3, .int z3)] [] := by
    intro n9337
    induction n9337 with
    | zero =>
      intro x9185 x9186 I9191 A9191 hI9191 hA9191 hV9191 h9334 h9335 m9338 m9338z hF
      exact absurd m9338z (Nat.lt_irrefl 0)
    | succ n9337 ih9340 =>
      intro x9185 x9186 I9191 A9191 hI9191 hA9191 hV9191 h9334 h9335 m9338 m9338z hF
      replace hF := FE.itr_iiIA hF
      refine g_iload hk dX9_findNearest_34 rfl ?_
      refine g_sipush (v := 160) hk dX9_findNearest_36 (by decide) ?_
      refine g_icmp_ge (tgt := 127) (a := x9185.toInt) (b := 160) hk dX9_findNearest_39 (by decide) rfl rfl (fun c9341 => ?_) (fun c9341 => ?_)
      · skip
        replace hF := FE.pos hF c9341
        exact g_vret hk hR ⟨I9191, A9191, (show Md [33, 34, 38, 39] I I9191 from (Md.tr (Md.tr (Md.up (Md.up Md.rf rfl) rfl) hI9184 rfl) hI9191 rfl)), (show Md [21, 22, 23] A A9191 from (Md.tr (Md.tr Md.rf hA9184 rfl) hA9191 rfl)), hV9191, hF, rfl, rfl⟩ dX9_findNearest_127
      · skip
        replace hF := FE.neg hF c9341
        refine g_iload hk dX9_findNearest_42 rfl ?_
        refine g_iload_n hk dX9_findNearest_44 rfl ?_
        have b9342l := Int32.le_toInt x9186
        have b9342h := Int32.toInt_lt x9186
        have b9343l := Int32.le_toInt z3
        have b9343h := Int32.toInt_lt z3
        refine g_icmp_le (tgt := 127) (a := x9186.toInt) (b := z3.toInt) hk dX9_findNearest_45 (by decide) rfl rfl (fun c9344 => ?_) (fun c9344 => ?_)
        · skip
          replace hF := FE.pos hF c9344
          exact g_vret hk hR ⟨I9191, A9191, (show Md [33, 34, 38, 39] I I9191 from (Md.tr (Md.tr (Md.up (Md.up Md.rf rfl) rfl) hI9184 rfl) hI9191 rfl)), (show Md [21, 22, 23] A A9191 from (Md.tr (Md.tr Md.rf hA9184 rfl) hA9191 rfl)), hV9191, hF, rfl, rfl⟩ dX9_findNearest_127
        · skip
          replace hF := FE.neg hF c9344
          refine g_aload_n hk dX9_findNearest_48 rfl ?_
          refine gX_r49_3 hk hin9 (List.mem_cons_of_mem _ (List.mem_append_left _ (List.mem_of_getElem? (i := 9) rfl))) dX9_findNearest_49 ?_
          refine g_iload hk dX9_findNearest_52 rfl ?_
          refine lX_31 (v := (A 31 x9185.toNatClampNeg)) hk (vp_in_iff.mpr ⟨by omega, by omega⟩) ((congrFun (hA9191 31 rfl) _).trans (congrFun (hA9184 31 rfl) _)) dX9_findNearest_54 ?_
          have b9345l := Int32.le_toInt (A 31 x9185.toNatClampNeg)
          have b9345h := Int32.toInt_lt (A 31 x9185.toNatClampNeg)
          refine g_if_eq (tgt := 121) (a := (A 31 x9185.toNatClampNeg).toInt) hk dX9_findNearest_55 (by decide) rfl (fun c9346 => ?_) (fun c9346 => ?_)
          · skip
            replace hF := FE.pos hF c9346
            obtain ⟨y9347, ey9347⟩ : ∃ y : Int32, y = x9185 + Int32.ofInt 1 := ⟨_, rfl⟩
            replace hF := FE.lt hF ey9347
            have hy9347 : y9347.toInt = x9185.toInt + 1 := i32_add ey9347 rfl (by decide) (by omega) (by omega)
            refine g_iinc (v := y9347) (lv' := [(5, .int y9347), (4, .int x9186), (0, .ref (q 49)), (1, .int z1), (2, .int z2), (3, .int z3)]) hk 0 dX9_findNearest_121 rfl ey9347.symm (by decide) rfl ?_
            refine g_goto (tgt := 34) hk dX9_findNearest_124 (by decide) ?_
            exact g_lv (List.forall_mem_cons.mpr ⟨List.mem_of_getElem? (i := 0) rfl, (List.forall_mem_cons.mpr ⟨List.mem_of_getElem? (i := 1) rfl, (List.forall_mem_cons.mpr ⟨List.mem_of_getElem? (i := 2) rfl, (List.forall_mem_cons.mpr ⟨List.mem_of_getElem? (i := 3) rfl, (List.forall_mem_cons.mpr ⟨List.mem_of_getElem? (i := 4) rfl, (List.forall_mem_cons.mpr ⟨List.mem_of_getElem? (i := 5) rfl, (fun _ h => absurd h List.not_mem_nil)⟩)⟩)⟩)⟩)⟩)⟩) (ih9340 y9347 x9186 I9191 A9191 (show Md [33, 34, 38, 39] I9184 I9191 from Md.tr hI9191 (show Md [33, 34, 38, 39] I9191 I9191 from Md.rf) rfl) (show Md [22, 23] A9184 A9191 from Md.tr hA9191 (show Md [22, 23] A9191 A9191 from Md.rf) rfl) hV9191 (by omega) (by omega) (by omega) (by omega) hF)
          · skip
            replace hF := FE.neg hF c9346
            refine g_iload hk dX9_findNearest_58 rfl ?_
            refine g_iload_n hk dX9_findNearest_60 rfl ?_
            refine g_isub hk dX9_findNearest_61 ?_
            refine g_topi (fun y9348 ey9348 => ?_)
            replace hF := FE.lt hF ey9348
            have hy9348 := i32_sub0 ey9348
            have b9349l := Int32.le_toInt y9348
            have b9349h := Int32.toInt_lt y9348
            refine g_mabs hk (List.mem_cons_of_mem _ (List.mem_append_left _ (List.mem_of_getElem? (i := 10) rfl))) (List.mem_cons_of_mem _ (List.mem_append_left _ (List.mem_of_getElem? (i := 11) rfl))) (List.mem_cons_of_mem _ (List.mem_append_left _ (List.mem_of_getElem? (i := 12) rfl))) (List.mem_cons_of_mem _ (List.mem_append_left _ (List.mem_of_getElem? (i := 13) rfl))) (Nat.le_of_ble_eq_true rfl) (Nat.le_of_ble_eq_true rfl) (Nat.le_of_ble_eq_true rfl) (Nat.le_of_ble_eq_true rfl) dX9_findNearest_62 ?_
            refine g_topi (fun y9350 ey9350 => ?_)
            replace hF := FE.lt hF ey9350
            refine g_iload_n hk dX9_findNearest_65 rfl ?_
            have b9351l := Int32.le_toInt y9350
            have b9351h := Int32.toInt_lt y9350
            have b9352l := Int32.le_toInt z2
            have b9352h := Int32.toInt_lt z2
            refine g_icmp_ge (tgt := 72) (a := y9350.toInt) (b := z2.toInt) hk dX9_findNearest_66 (by decide) rfl rfl (fun c9353 => ?_) (fun c9353 => ?_)
            · skip
              replace hF := FE.pos hF c9353
              refine g_aload_n hk dX9_findNearest_72 rfl ?_
              refine gX_r49_1 hk hin9 (List.mem_cons_of_mem _ (List.mem_append_left _ (List.mem_of_getElem? (i := 3) rfl))) dX9_findNearest_73 ?_
              refine g_aload_n hk dX9_findNearest_76 rfl ?_
              refine gX_r49_2 hk hin9 (List.mem_cons_of_mem _ (List.mem_append_left _ (List.mem_of_getElem? (i := 4) rfl))) dX9_findNearest_77 ?_
              refine g_iload hk dX9_findNearest_80 rfl ?_
              refine g_bipush (v := 16) hk dX9_findNearest_82 (by decide) ?_
              refine g_imul hk dX9_findNearest_84 ?_
              refine g_topi (fun y9354 ey9354 => ?_)
              replace hF := FE.lt hF ey9354
              have hy9354 : y9354.toInt = x9185.toInt * 16 := i32_mul ey9354 rfl rfl (by omega) (by omega)
              refine g_callV (n := 2) hk (k299_X2_takeRight l D zt q d I9191 A9191 y9354 hV9191) (SP.same _) (fun _ h => h) (gi_V (List.mem_cons_of_mem _ (List.mem_append_left _ (List.mem_of_getElem? (i := 14) rfl))) (List.mem_cons_of_mem _ (List.mem_append_left _ (List.mem_of_getElem? (i := 15) rfl))) (List.mem_cons_of_mem _ (List.mem_append_left _ (List.mem_of_getElem? (i := 16) rfl))) (List.mem_cons_of_mem _ (List.mem_append_left _ (List.mem_of_getElem? (i := 8) rfl))) (gi_sub (fun w h => (List.mem_cons_of_mem _ (List.mem_append_right _ (List.mem_append_right _ (List.mem_append_right _ (List.mem_append_left _ h)))))) zg_k299_X2_takeRight)) rfl rfl rfl (by decide +kernel) ⟨Nat.le_of_ble_eq_true rfl, Nat.le_of_ble_eq_true rfl⟩ 38 rfl rfl rfl rfl (Nat.le_of_ble_eq_true rfl) ⟨Nat.le_of_ble_eq_true rfl, Nat.le_of_ble_eq_true rfl⟩ dX9_findNearest_85 (fun v ty' w' hp hk' => ?_)
              obtain ⟨I9356, A9356, hI9356, hA9356, hV9356, hC, rfl, rfl⟩ := hp
              replace hF := FE.bdX hF hC
              show GW κ 6 0 0 (wX q d I9356 A9356) 88 [(5, .int x9185), (4, .int x9186), (0, .ref (q 49)), (1, .int z1), (2, .int z2), (3, .int z3)] []
              refine g_aload_n hk dX9_findNearest_88 rfl ?_
              refine gX_r49_1 hk hin9 (List.mem_cons_of_mem _ (List.mem_append_left _ (List.mem_of_getElem? (i := 3) rfl))) dX9_findNearest_89 ?_
              refine g_iload hk dX9_findNearest_92 rfl ?_
              refine g_callV (n := 1) hk (k264_X2_isLess l D zt q d I9356 A9356 x9186 hV9356) (SP.same _) (fun _ h => h) (gi_V (List.mem_cons_of_mem _ (List.mem_append_left _ (List.mem_of_getElem? (i := 17) rfl))) (List.mem_cons_of_mem _ (List.mem_append_left _ (List.mem_of_getElem? (i := 18) rfl))) (List.mem_cons_of_mem _ (List.mem_append_left _ (List.mem_of_getElem? (i := 19) rfl))) (List.mem_cons_of_mem _ (List.mem_append_left _ (List.mem_of_getElem? (i := 8) rfl))) (gi_sub (fun w h => (List.mem_cons_of_mem _ (List.mem_append_right _ (List.mem_append_right _ (List.mem_append_right _ (List.mem_append_right _ (List.mem_append_left _ h))))))) zg_k264_X2_isLess)) rfl rfl rfl (by decide +kernel) ⟨Nat.le_of_ble_eq_true rfl, Nat.le_of_ble_eq_true rfl⟩ 38 rfl rfl rfl rfl (Nat.le_of_ble_eq_true rfl) ⟨Nat.le_of_ble_eq_true rfl, Nat.le_of_ble_eq_true rfl⟩ dX9_findNearest_94 (fun v ty' w' hp hk' => ?_)
              obtain ⟨I9360, A9360, hI9360, hA9360, hV9360, y9357, c9358, c9359, hC, rfl, rfl⟩ := hp
              replace hF := FE.bdX hF hC
              show GW κ 6 0 0 (wX q d I9360 A9360) 97 [(5, .int x9185), (4, .int x9186), (0, .ref (q 49)), (1, .int z1), (2, .int z2), (3, .int z3)] [.int y9357]
              refine g_if_eq (tgt := 121) (a := y9357.toInt) hk dX9_findNearest_97 (by decide) rfl (fun c9361 => ?_) (fun c9361 => ?_)
              · skip
                replace hF := FE.pos hF c9361
                obtain ⟨y9362, ey9362⟩ : ∃ y : Int32, y = x9185 + Int32.ofInt 1 := ⟨_, rfl⟩
                replace hF := FE.lt hF ey9362
                have hy9362 : y9362.toInt = x9185.toInt + 1 := i32_add ey9362 rfl (by decide) (by omega) (by omega)
                refine g_iinc (v := y9362) (lv' := [(5, .int y9362), (4, .int x9186), (0, .ref (q 49)), (1, .int z1), (2, .int z2), (3, .int z3)]) hk 0 dX9_findNearest_121 rfl ey9362.symm (by decide) rfl ?_
                refine g_goto (tgt := 34) hk dX9_findNearest_124 (by decide) ?_
                exact g_lv (List.forall_mem_cons.mpr ⟨List.mem_of_getElem? (i := 0) rfl, (List.forall_mem_cons.mpr ⟨List.mem_of_getElem? (i := 1) rfl, (List.forall_mem_cons.mpr ⟨List.mem_of_getElem? (i := 2) rfl, (List.forall_mem_cons.mpr ⟨List.mem_of_getElem? (i := 3) rfl, (List.forall_mem_cons.mpr ⟨List.mem_of_getElem? (i := 4) rfl, (List.forall_mem_cons.mpr ⟨List.mem_of_getElem? (i := 5) rfl, (fun _ h => absurd h List.not_mem_nil)⟩)⟩)⟩)⟩)⟩)⟩) (ih9340 y9362 x9186 I9360 A9360 (show Md [33, 34, 38, 39] I9184 I9360 from Md.tr hI9191 (show Md [33, 34, 38, 39] I9191 I9360 from (Md.tr (Md.tr Md.rf hI9356 rfl) hI9360 rfl)) rfl) (show Md [22, 23] A9184 A9360 from Md.tr hA9191 (show Md [22, 23] A9191 A9360 from (Md.tr (Md.tr Md.rf hA9356 rfl) hA9360 rfl)) rfl) hV9360 (by omega) (by omega) (by omega) (by omega) hF)
              · skip
                replace hF := FE.neg hF c9361
                refine g_aload_n hk dX9_findNearest_100 rfl ?_
                refine gX_r49_1 hk hin9 (List.mem_cons_of_mem _ (List.mem_append_left _ (List.mem_of_getElem? (i := 3) rfl))) dX9_findNearest_101 ?_
                refine g_callV (n := 0) hk (k237_X2_laidDistance l D zt q d I9360 A9360  hV9360) (SP.same _) (fun _ h => h) (gi_V (List.mem_cons_of_mem _ (List.mem_append_left _ (List.mem_of_getElem? (i := 20) rfl))) (List.mem_cons_of_mem _ (List.mem_append_left _ (List.mem_of_getElem? (i := 21) rfl))) (List.mem_cons_of_mem _ (List.mem_append_left _ (List.mem_of_getElem? (i := 22) rfl))) (List.mem_cons_of_mem _ (List.mem_append_left _ (List.mem_of_getElem? (i := 8) rfl))) (gi_sub (fun w h => (List.mem_cons_of_mem _ (List.mem_append_right _ (List.mem_append_right _ (List.mem_append_right _ (List.mem_append_right _ (List.mem_append_right _ (List.mem_append_left _ h)))))))) zg_k237_X2_laidDistance)) rfl rfl rfl (by decide +kernel) ⟨Nat.le_of_ble_eq_true rfl, Nat.le_of_ble_eq_true rfl⟩ 38 rfl rfl rfl rfl (Nat.le_of_ble_eq_true rfl) ⟨Nat.le_of_ble_eq_true rfl, Nat.le_of_ble_eq_true rfl⟩ dX9_findNearest_104 (fun v ty' w' hp hk' => ?_)
                obtain ⟨y9363, hC, rfl, rfl⟩ := hp
                replace hF := FE.lt hF (fe_s hC)
                show GW κ 6 0 0 (wX q d I9360 A9360) 107 [(5, .int x9185), (4, .int x9186), (0, .ref (q 49)), (1, .int z1), (2, .int z2), (3, .int z3)] [.int y9363]
                refine g_istore (lv' := [(4, .int y9363), (5, .int x9185), (0, .ref (q 49)), (1, .int z1), (2, .int z2), (3, .int z3)]) hk dX9_findNearest_107 (by decide) rfl ?_
                refine g_aload_n hk dX9_findNearest_109 rfl ?_
                refine g_iload hk dX9_findNearest_110 rfl ?_
                refine pX_i38 hk hin9 (List.mem_cons_of_mem _ (List.mem_append_left _ (List.mem_of_getElem? (i := 0) rfl))) dX9_findNearest_112 ?_
                refine g_aload_n hk dX9_findNearest_115 rfl ?_
                refine g_iload hk dX9_findNearest_116 rfl ?_
                refine pX_i39 hk hin9 (List.mem_cons_of_mem _ (List.mem_append_left _ (List.mem_of_getElem? (i := 1) rfl))) dX9_findNearest_118 ?_
                obtain ⟨y9364, ey9364⟩ : ∃ y : Int32, y = x9185 + Int32.ofInt 1 := ⟨_, rfl⟩
                replace hF := FE.lt hF ey9364
                have hy9364 : y9364.toInt = x9185.toInt + 1 := i32_add ey9364 rfl (by decide) (by omega) (by omega)
                refine g_iinc (v := y9364) (lv' := [(5, .int y9364), (4, .int y9363), (0, .ref (q 49)), (1, .int z1), (2, .int z2), (3, .int z3)]) hk 1 dX9_findNearest_121 rfl ey9364.symm (by decide) rfl ?_
                refine g_goto (tgt := 34) hk dX9_findNearest_124 (by decide) ?_
                exact g_lv (List.forall_mem_cons.mpr ⟨List.mem_of_getElem? (i := 0) rfl, (List.forall_mem_cons.mpr ⟨List.mem_of_getElem? (i := 1) rfl, (List.forall_mem_cons.mpr ⟨List.mem_of_getElem? (i := 2) rfl, (List.forall_mem_cons.mpr ⟨List.mem_of_getElem? (i := 3) rfl, (List.forall_mem_cons.mpr ⟨List.mem_of_getElem? (i := 4) rfl, (List.forall_mem_cons.mpr ⟨List.mem_of_getElem? (i := 5) rfl, (fun _ h => absurd h List.not_mem_nil)⟩)⟩)⟩)⟩)⟩)⟩) (ih9340 y9364 y9363 (upd (upd I9360 38 x9185) 39 y9363) A9360 (show Md [33, 34, 38, 39] I9184 (upd (upd I9360 38 x9185) 39 y9363) from Md.tr hI9191 (show Md [33, 34, 38, 39] I9191 (upd (upd I9360 38 x9185) 39 y9363) from (Md.up (Md.up (Md.tr (Md.tr Md.rf hI9356 rfl) hI9360 rfl) rfl) rfl)) rfl) (show Md [22, 23] A9184 A9360 from Md.tr hA9191 (show Md [22, 23] A9191 A9360 from (Md.tr (Md.tr Md.rf hA9356 rfl) hA9360 rfl)) rfl) ⟨(IvX_f0 (I := I9360) (A := A9360) hV9360), (IvX_f18 (I := I9360) (A := A9360) hV9360), (IvX_f30 (I := I9360) (A := A9360) hV9360), (IvX_f31 (I := I9360) (A := A9360) hV9360), (IvX_a4 (I := I9360) (A := A9360) hV9360), (IvX_a9 (I := I9360) (A := A9360) hV9360), trivial⟩ (by omega) (by omega) (by omega) (by omega) hF)
            · skip
              replace hF := FE.neg hF c9353
              refine g_goto (tgt := 121) hk dX9_findNearest_69 (by decide) ?_
              obtain ⟨y9365, ey9365⟩ : ∃ y : Int32, y = x9185 + Int32.ofInt 1 := ⟨_, rfl⟩
              replace hF := FE.lt hF ey9365
              have hy9365 : y9365.toInt = x9185.toInt + 1 := i32_add ey9365 rfl (by decide) (by omega) (by omega)
              refine g_iinc (v := y9365) (lv' := [(5, .int y9365), (4, .int x9186), (0, .ref (q 49)), (1, .int z1), (2, .int z2), (3, .int z3)]) hk 0 dX9_findNearest_121 rfl ey9365.symm (by decide) rfl ?_
              refine g_goto (tgt := 34) hk dX9_findNearest_124 (by decide) ?_
              exact g_lv (List.forall_mem_cons.mpr ⟨List.mem_of_getElem? (i := 0) rfl, (List.forall_mem_cons.mpr ⟨List.mem_of_getElem? (i := 1) rfl, (List.forall_mem_cons.mpr ⟨List.mem_of_getElem? (i := 2) rfl, (List.forall_mem_cons.mpr ⟨List.mem_of_getElem? (i := 3) rfl, (List.forall_mem_cons.mpr ⟨List.mem_of_getElem? (i := 4) rfl, (List.forall_mem_cons.mpr ⟨List.mem_of_getElem? (i := 5) rfl, (fun _ h => absurd h List.not_mem_nil)⟩)⟩)⟩)⟩)⟩)⟩) (ih9340 y9365 x9186 I9191 A9191 (show Md [33, 34, 38, 39] I9184 I9191 from Md.tr hI9191 (show Md [33, 34, 38, 39] I9191 I9191 from Md.rf) rfl) (show Md [22, 23] A9184 A9191 from Md.tr hA9191 (show Md [22, 23] A9191 A9191 from Md.rf) rfl) hV9191 (by omega) (by omega) (by omega) (by omega) hF)
  have k9367 : (0 : Int32).toInt = 0 := rfl
  have k9368 : (2147483647 : Int32).toInt = 2147483647 := rfl
  have n9366a : 161 - 0 < (FU : Int) := by have := FU_eq; omega
  have n9366b : 0 < FU := by have := FU_eq; omega
  exact lp9336 FU 0 2147483647 I9184 A9184 Md.rf Md.rf hV9184 (by omega) (by omega) n9366a n9366b hF
noncomputable def fX9_findNear (I : Nat → Int32) (A : Nat → Nat → Int32) (z1 : Int32) (z2 : Int32) : Int32 × (Nat → Int32) × (Nat → Nat → Int32) := f_bdX (fX9_bringAll I A z2) fun _ I9133 A9133 => f_bdX (fX9_findNearest I9133 A9133 z1 z2 (-1)) fun _ I9371 A9371 => (0, I9371, A9371)
def wo_k292_X9_findNear : List Cond := [Cond.methodLink RX9 50 yX9_bringAll, Cond.instanceMethod yX9_bringAll, Cond.selects RX9 yX9_bringAll yX9_bringAll, Cond.initialized RX9, Cond.methodLink RX9 54 yX9_findNearest, Cond.instanceMethod yX9_findNearest, Cond.selects RX9 yX9_findNearest yX9_findNearest]
def wz_k292_X9_findNear : List Cond := .code yX9_findNear cX9_findNear 3 none :: (wo_k292_X9_findNear ++ (wz_k293_X9_bringAll ++ (wz_k296_X9_findNearest ++ ([] : List Cond))))
theorem zg_k292_X9_findNear : ∀ w ∈ wz_k292_X9_findNear, goodWord w = true := zg_cons rfl (zg_app (by decide +kernel) (zg_app zg_k293_X9_bringAll (zg_app zg_k296_X9_findNearest zg_nil)))
theorem zi_k292_X9_findNear : ∀ w ∈ wz_k292_X9_findNear, w ∈ lw_tbl := zi_cons zw_1254 (zi_app (zi_cons zw_1255 (zi_cons zw_1257 (zi_cons zw_39 (zi_cons zw_114 (zi_cons zw_1269 (zi_cons zw_1271 (zi_cons zw_41 zi_nil))))))) (zi_app zi_k293_X9_bringAll (zi_app zi_k296_X9_findNearest zi_nil)))
set_option maxHeartbeats 4000000 in
set_option maxRecDepth 100000 in
theorem k292_X9_findNear (l : Launch) (D : va_G) (zt : Nat × Nat × Nat × (Nat → Nat) × (Nat → Nat)) (q : Nat → Nat) (d : Nat → ClassId) (I : Nat → Int32) (A : Nat → Nat → Int32) (z1 : Int32) (z2 : Int32) (hIv : IvX I A) : GM l D zt (tyX d) yX9_findNear wz_k292_X9_findNear ({ frames := 5, cells := 0, slots := 0, locals := 118 } : Room) [.ref (q 49), .int z1, .int z2] (wX q d I A) (fun v _ w' => ∃ (I' : Nat → Int32) (A' : Nat → Nat → Int32), Md [28, 30, 31, 32, 33, 34, 38, 39] I I' ∧ Md [21, 22, 23, 30, 31] A A' ∧ IvX I' A' ∧ FE (fX9_findNear I A z1 z2) (0, I', A') ∧ v = none ∧ w' = wX q d I' A') 0 0 := by
  refine GM.of (cc := cX9_findNear) (maxL := 3) (ret := none) (own := RX9) (lv := [(0, .ref (q 49)), (1, .int z1), (2, .int z2)]) (by decide) rfl rfl (Nat.le_of_ble_eq_true rfl) rfl (fun κ sz hk hR hN => ?_)
  have hF : FE (fX9_findNear I A z1 z2) (fX9_findNear I A z1 z2) := FE.rf
  refine g_aload_n hk dX9_findNear_0 rfl ?_
  refine g_iload_n hk dX9_findNear_1 rfl ?_
  refine g_callV (n := 1) hk (k293_X9_bringAll l D zt q d I A z2 hIv) (SP.same _) (fun _ h => h) (gi_V (List.mem_cons_of_mem _ (List.mem_append_left _ (List.mem_of_getElem? (i := 0) rfl))) (List.mem_cons_of_mem _ (List.mem_append_left _ (List.mem_of_getElem? (i := 1) rfl))) (List.mem_cons_of_mem _ (List.mem_append_left _ (List.mem_of_getElem? (i := 2) rfl))) (List.mem_cons_of_mem _ (List.mem_append_left _ (List.mem_of_getElem? (i := 3) rfl))) (gi_sub (fun w h => (List.mem_cons_of_mem _ (List.mem_append_right _ (List.mem_append_left _ h)))) zg_k293_X9_bringAll)) rfl rfl rfl (by decide +kernel) ⟨Nat.le_of_ble_eq_true rfl, Nat.le_of_ble_eq_true rfl⟩ 49 rfl rfl rfl rfl (Nat.le_of_ble_eq_true rfl) ⟨Nat.le_of_ble_eq_true rfl, Nat.le_of_ble_eq_true rfl⟩ dX9_findNear_2 (fun v ty' w' hp hk' => ?_)
  obtain ⟨I9133, A9133, hI9133, hA9133, hV9133, hC, rfl, rfl⟩ := hp
  replace hF := FE.bdX hF hC
  show GW κ 3 0 0 (wX q d I9133 A9133) 5 [(0, .ref (q 49)), (1, .int z1), (2, .int z2)] []
  refine g_aload_n hk dX9_findNear_5 rfl ?_
  refine g_iload_n hk dX9_findNear_6 rfl ?_
  refine g_iload_n hk dX9_findNear_7 rfl ?_
  refine g_iconst (v := (-1)) hk dX9_findNear_8 (by decide) ?_
  have k9369 : ((-1) : Int32).toInt = (-1) := rfl
  refine g_callV (n := 3) hk (k296_X9_findNearest l D zt q d I9133 A9133 z1 z2 (-1) hV9133) (SP.same _) (fun _ h => h) (gi_V (List.mem_cons_of_mem _ (List.mem_append_left _ (List.mem_of_getElem? (i := 4) rfl))) (List.mem_cons_of_mem _ (List.mem_append_left _ (List.mem_of_getElem? (i := 5) rfl))) (List.mem_cons_of_mem _ (List.mem_append_left _ (List.mem_of_getElem? (i := 6) rfl))) (List.mem_cons_of_mem _ (List.mem_append_left _ (List.mem_of_getElem? (i := 3) rfl))) (gi_sub (fun w h => (List.mem_cons_of_mem _ (List.mem_append_right _ (List.mem_append_right _ (List.mem_append_left _ h))))) zg_k296_X9_findNearest)) rfl rfl rfl (by decide +kernel) ⟨Nat.le_of_ble_eq_true rfl, Nat.le_of_ble_eq_true rfl⟩ 49 rfl rfl rfl rfl (Nat.le_of_ble_eq_true rfl) ⟨Nat.le_of_ble_eq_true rfl, Nat.le_of_ble_eq_true rfl⟩ dX9_findNear_9 (fun v ty' w' hp hk' => ?_)
  obtain ⟨I9371, A9371, hI9371, hA9371, hV9371, hC, rfl, rfl⟩ := hp
  replace hF := FE.bdX hF hC
  show GW κ 3 0 0 (wX q d I9371 A9371) 12 [(0, .ref (q 49)), (1, .int z1), (2, .int z2)] []
  exact g_vret hk hR ⟨I9371, A9371, (show Md [28, 30, 31, 32, 33, 34, 38, 39] I I9371 from (Md.tr (Md.tr Md.rf hI9133 rfl) hI9371 rfl)), (show Md [21, 22, 23, 30, 31] A A9371 from (Md.tr (Md.tr Md.rf hA9133 rfl) hA9371 rfl)), hV9371, hF, rfl, rfl⟩ dX9_findNear_12
noncomputable def fX11_near (I : Nat → Int32) (A : Nat → Nat → Int32) (z1 : Int32) (z2 : Int32) (z3 : Int32) : Int32 × (Nat → Int32) × (Nat → Nat → Int32) := if fX11_isStretch I A z2 = 0 then ((-1), I, A) else if z3.toInt < 0 then ((-1), I, A) else if 1 < z3.toInt then ((-1), I, A) else if fX6_hasWindow I A z1 z2 = 0 then ((-1), I, A) else f_bdX (fX9_findNear I A z1 z2) fun _ I9373 A9373 => if z3.toInt ≠ 0 then ((I9373 39), I9373, A9373) else ((I9373 38), I9373, A9373)
def wo_k291_X11_near : List Cond := [Cond.methodLink RX11 196 yX11_isStretch, Cond.static yX11_isStretch, Cond.initialized RX11, Cond.fieldLink RX11 28 "WarpDesk" "series" "LWarpDesk$Series;", Cond.methodLink RX11 183 yX6_hasWindow, Cond.instanceMethod yX6_hasWindow, Cond.selects RX6 yX6_hasWindow yX6_hasWindow, Cond.initialized RX6, Cond.fieldLink RX11 81 "WarpDesk" "stretches" "LWarpDesk$Stretches;", Cond.methodLink RX11 323 yX9_findNear, Cond.instanceMethod yX9_findNear, Cond.selects RX9 yX9_findNear yX9_findNear, Cond.initialized RX9, Cond.fieldLink RX11 329 "WarpDesk$Stretches" "nearestDistance" "I", Cond.fieldLink RX11 326 "WarpDesk$Stretches" "nearest" "I"]
def wz_k291_X11_near : List Cond := .code yX11_near cX11_near 4 (some .int) :: (wo_k291_X11_near ++ (wsX90 ++ (wsX110 ++ (wz_k212_X11_isStretch ++ (wz_k207_X6_hasWindow ++ (wz_k292_X9_findNear ++ ([] : List Cond)))))))
theorem zg_k291_X11_near : ∀ w ∈ wz_k291_X11_near, goodWord w = true := zg_cons rfl (zg_app (by decide +kernel) (zg_app zgU_wsX90 (zg_app zgU_wsX110 (zg_app zg_k212_X11_isStretch (zg_app zg_k207_X6_hasWindow (zg_app zg_k292_X9_findNear zg_nil))))))
theorem zi_k291_X11_near : ∀ w ∈ wz_k291_X11_near, w ∈ lw_tbl := zi_cons zw_1250 (zi_app (zi_cons zw_926 (zi_cons zw_927 (zi_cons zw_103 (zi_cons zw_489 (zi_cons zw_901 (zi_cons zw_902 (zi_cons zw_903 (zi_cons zw_109 (zi_cons zw_496 (zi_cons zw_1251 (zi_cons zw_1252 (zi_cons zw_1253 (zi_cons zw_114 (zi_cons zw_453 (zi_cons zw_451 zi_nil))))))))))))))) (zi_app inX9 (zi_app inX11 (zi_app zi_k212_X11_isStretch (zi_app zi_k207_X6_hasWindow (zi_app zi_k292_X9_findNear zi_nil))))))
set_option maxHeartbeats 4000000 in
set_option maxRecDepth 100000 in
theorem k291_X11_near (l : Launch) (D : va_G) (zt : Nat × Nat × Nat × (Nat → Nat) × (Nat → Nat)) (q : Nat → Nat) (d : Nat → ClassId) (I : Nat → Int32) (A : Nat → Nat → Int32) (z1 : Int32) (z2 : Int32) (z3 : Int32) (hIv : IvX I A) : GM l D zt (tyX d) yX11_near wz_k291_X11_near ({ frames := 6, cells := 0, slots := 0, locals := 140 } : Room) [.ref (q 0), .int z1, .int z2, .int z3] (wX q d I A) (fun v _ w' => ∃ (I' : Nat → Int32) (A' : Nat → Nat → Int32), Md [28, 30, 31, 32, 33, 34, 38, 39] I I' ∧ Md [21, 22, 23, 30, 31] A A' ∧ IvX I' A' ∧ ∃ y0 : Int32, FE (fX11_near I A z1 z2 z3) (y0, I', A') ∧ v = some (.int y0) ∧ w' = wX q d I' A') 0 0 := by
  refine GM.of (cc := cX11_near) (maxL := 4) (ret := (some .int)) (own := RX11) (lv := [(0, .ref (q 0)), (1, .int z1), (2, .int z2), (3, .int z3)]) (by decide) rfl rfl (Nat.le_of_ble_eq_true rfl) rfl (fun κ sz hk hR hN => ?_)
  have hin9 : ∀ w ∈ u_ws RX9 TX9 11, w ∈ wz_k291_X11_near := fun w h => (List.mem_cons_of_mem _ (List.mem_append_right _ (List.mem_append_left _ h)))
  have hin11 : ∀ w ∈ u_ws RX11 TX11 10, w ∈ wz_k291_X11_near := fun w h => (List.mem_cons_of_mem _ (List.mem_append_right _ (List.mem_append_right _ (List.mem_append_left _ h))))
  have hF : FE (fX11_near I A z1 z2 z3) (fX11_near I A z1 z2 z3) := FE.rf
  refine g_iload_n hk dX11_near_0 rfl ?_
  refine g_callS (n := 1) hk (k212_X11_isStretch l D zt q d I A z2 hIv) (SP.same _) (fun _ h => h) (gi_S (List.mem_cons_of_mem _ (List.mem_append_left _ (List.mem_of_getElem? (i := 0) rfl))) (List.mem_cons_of_mem _ (List.mem_append_left _ (List.mem_of_getElem? (i := 1) rfl))) (List.mem_cons_of_mem _ (List.mem_append_left _ (List.mem_of_getElem? (i := 2) rfl))) (gi_sub (fun w h => (List.mem_cons_of_mem _ (List.mem_append_right _ (List.mem_append_right _ (List.mem_append_right _ (List.mem_append_left _ h)))))) zg_k212_X11_isStretch)) rfl rfl rfl (by decide +kernel) ⟨Nat.le_of_ble_eq_true rfl, Nat.le_of_ble_eq_true rfl⟩ rfl rfl (Nat.le_of_ble_eq_true rfl) ⟨Nat.le_of_ble_eq_true rfl, Nat.le_of_ble_eq_true rfl⟩ dX11_near_1 (fun v ty' w' hp hk' => ?_)
  rcases hp with ⟨hC, rfl, rfl⟩ | ⟨c8908, c8909, c8910, c8911, hC, rfl, rfl⟩
  · skip
    replace hF := FE.pos hF hC
    show GW κ 4 0 0 (wX q d I A) 4 [(0, .ref (q 0)), (1, .int z1), (2, .int z2), (3, .int z3)] [.int 0]
    refine g_if_eq (tgt := 28) (a := 0) hk dX11_near_4 (by decide) rfl (fun _ => ?_) (fun z9 => absurd (show (0 : Int) = (0 : Int) from by decide) z9)
    refine g_iconst (v := (-1)) hk dX11_near_28 (by decide) ?_
    exact g_iret hk hR rfl ⟨I, A, (show Md [28, 30, 31, 32, 33, 34, 38, 39] I I from Md.rf), (show Md [21, 22, 23, 30, 31] A A from Md.rf), hIv, (-1), hF, rfl, rfl⟩ dX11_near_29
  · skip
    replace hF := FE.neg hF (fe_ne hC (by decide))
    show GW κ 4 0 0 (wX q d I A) 4 [(0, .ref (q 0)), (1, .int z1), (2, .int z2), (3, .int z3)] [.int 1]
    refine g_if_eq (tgt := 28) (a := 1) hk dX11_near_4 (by decide) rfl (fun z9 => absurd z9 (show ¬ ((1 : Int) = (0 : Int)) from by decide)) (fun _ => ?_)
    refine g_iload_n hk dX11_near_7 rfl ?_
    have b8913l := Int32.le_toInt z3
    have b8913h := Int32.toInt_lt z3
    refine g_if_lt (tgt := 28) (a := z3.toInt) hk dX11_near_8 (by decide) rfl (fun c8914 => ?_) (fun c8914 => ?_)
    · skip
      replace hF := FE.pos hF c8914
      refine g_iconst (v := (-1)) hk dX11_near_28 (by decide) ?_
      exact g_iret hk hR rfl ⟨I, A, (show Md [28, 30, 31, 32, 33, 34, 38, 39] I I from Md.rf), (show Md [21, 22, 23, 30, 31] A A from Md.rf), hIv, (-1), hF, rfl, rfl⟩ dX11_near_29
    · skip
      replace hF := FE.neg hF c8914
      refine g_iload_n hk dX11_near_11 rfl ?_
      refine g_iconst (v := 1) hk dX11_near_12 (by decide) ?_
      refine g_icmp_gt (tgt := 28) (a := z3.toInt) (b := 1) hk dX11_near_13 (by decide) rfl rfl (fun c8915 => ?_) (fun c8915 => ?_)
      · skip
        replace hF := FE.pos hF c8915
        refine g_iconst (v := (-1)) hk dX11_near_28 (by decide) ?_
        exact g_iret hk hR rfl ⟨I, A, (show Md [28, 30, 31, 32, 33, 34, 38, 39] I I from Md.rf), (show Md [21, 22, 23, 30, 31] A A from Md.rf), hIv, (-1), hF, rfl, rfl⟩ dX11_near_29
      · skip
        replace hF := FE.neg hF c8915
        refine g_aload_n hk dX11_near_16 rfl ?_
        refine gX_r0_2 hk hin11 (List.mem_cons_of_mem _ (List.mem_append_left _ (List.mem_of_getElem? (i := 3) rfl))) dX11_near_17 ?_
        refine g_iload_n hk dX11_near_20 rfl ?_
        refine g_iload_n hk dX11_near_21 rfl ?_
        refine g_callV (n := 2) hk (k207_X6_hasWindow l D zt q d I A z1 z2 hIv) (SP.same _) (fun _ h => h) (gi_V (List.mem_cons_of_mem _ (List.mem_append_left _ (List.mem_of_getElem? (i := 4) rfl))) (List.mem_cons_of_mem _ (List.mem_append_left _ (List.mem_of_getElem? (i := 5) rfl))) (List.mem_cons_of_mem _ (List.mem_append_left _ (List.mem_of_getElem? (i := 6) rfl))) (List.mem_cons_of_mem _ (List.mem_append_left _ (List.mem_of_getElem? (i := 7) rfl))) (gi_sub (fun w h => (List.mem_cons_of_mem _ (List.mem_append_right _ (List.mem_append_right _ (List.mem_append_right _ (List.mem_append_right _ (List.mem_append_left _ h))))))) zg_k207_X6_hasWindow)) rfl rfl rfl (by decide +kernel) ⟨Nat.le_of_ble_eq_true rfl, Nat.le_of_ble_eq_true rfl⟩ 13 rfl rfl rfl rfl (Nat.le_of_ble_eq_true rfl) ⟨Nat.le_of_ble_eq_true rfl, Nat.le_of_ble_eq_true rfl⟩ dX11_near_22 (fun v ty' w' hp hk' => ?_)
        rcases hp with ⟨hC, rfl, rfl⟩ | ⟨c8917, c8918, c8919, c8920, c8921, c8922, hC, rfl, rfl⟩
        · skip
          replace hF := FE.pos hF hC
          show GW κ 4 0 0 (wX q d I A) 25 [(0, .ref (q 0)), (1, .int z1), (2, .int z2), (3, .int z3)] [.int 0]
          refine g_if_ne (tgt := 30) (a := 0) hk dX11_near_25 (by decide) rfl (fun z9 => absurd z9 (show ¬ ((0 : Int) ≠ (0 : Int)) from by decide)) (fun _ => ?_)
          refine g_iconst (v := (-1)) hk dX11_near_28 (by decide) ?_
          exact g_iret hk hR rfl ⟨I, A, (show Md [28, 30, 31, 32, 33, 34, 38, 39] I I from Md.rf), (show Md [21, 22, 23, 30, 31] A A from Md.rf), hIv, (-1), hF, rfl, rfl⟩ dX11_near_29
        · skip
          replace hF := FE.neg hF (fe_ne hC (by decide))
          show GW κ 4 0 0 (wX q d I A) 25 [(0, .ref (q 0)), (1, .int z1), (2, .int z2), (3, .int z3)] [.int 1]
          refine g_if_ne (tgt := 30) (a := 1) hk dX11_near_25 (by decide) rfl (fun _ => ?_) (fun z9 => absurd (show (1 : Int) ≠ (0 : Int) from by decide) z9)
          refine g_aload_n hk dX11_near_30 rfl ?_
          refine gX_r0_9 hk hin11 (List.mem_cons_of_mem _ (List.mem_append_left _ (List.mem_of_getElem? (i := 8) rfl))) dX11_near_31 ?_
          refine g_iload_n hk dX11_near_34 rfl ?_
          refine g_iload_n hk dX11_near_35 rfl ?_
          refine g_callV (n := 2) hk (k292_X9_findNear l D zt q d I A z1 z2 hIv) (SP.same _) (fun _ h => h) (gi_V (List.mem_cons_of_mem _ (List.mem_append_left _ (List.mem_of_getElem? (i := 9) rfl))) (List.mem_cons_of_mem _ (List.mem_append_left _ (List.mem_of_getElem? (i := 10) rfl))) (List.mem_cons_of_mem _ (List.mem_append_left _ (List.mem_of_getElem? (i := 11) rfl))) (List.mem_cons_of_mem _ (List.mem_append_left _ (List.mem_of_getElem? (i := 12) rfl))) (gi_sub (fun w h => (List.mem_cons_of_mem _ (List.mem_append_right _ (List.mem_append_right _ (List.mem_append_right _ (List.mem_append_right _ (List.mem_append_right _ (List.mem_append_left _ h)))))))) zg_k292_X9_findNear)) rfl rfl rfl (by decide +kernel) ⟨Nat.le_of_ble_eq_true rfl, Nat.le_of_ble_eq_true rfl⟩ 49 rfl rfl rfl rfl (Nat.le_of_ble_eq_true rfl) ⟨Nat.le_of_ble_eq_true rfl, Nat.le_of_ble_eq_true rfl⟩ dX11_near_36 (fun v ty' w' hp hk' => ?_)
          obtain ⟨I9373, A9373, hI9373, hA9373, hV9373, hC, rfl, rfl⟩ := hp
          replace hF := FE.bdX hF hC
          show GW κ 4 0 0 (wX q d I9373 A9373) 39 [(0, .ref (q 0)), (1, .int z1), (2, .int z2), (3, .int z3)] []
          refine g_iload_n hk dX11_near_39 rfl ?_
          refine g_if_ne (tgt := 53) (a := z3.toInt) hk dX11_near_40 (by decide) rfl (fun c9374 => ?_) (fun c9374 => ?_)
          · skip
            replace hF := FE.pos hF c9374
            refine g_aload_n hk dX11_near_53 rfl ?_
            refine gX_r0_9 hk hin11 (List.mem_cons_of_mem _ (List.mem_append_left _ (List.mem_of_getElem? (i := 8) rfl))) dX11_near_54 ?_
            refine gX_i39 (v := (I9373 39)) hk hin9 (List.mem_cons_of_mem _ (List.mem_append_left _ (List.mem_of_getElem? (i := 13) rfl))) dX11_near_57 rfl ?_
            have b9375l := Int32.le_toInt (I9373 39)
            have b9375h := Int32.toInt_lt (I9373 39)
            exact g_iret hk hR rfl ⟨I9373, A9373, (show Md [28, 30, 31, 32, 33, 34, 38, 39] I I9373 from (Md.tr Md.rf hI9373 rfl)), (show Md [21, 22, 23, 30, 31] A A9373 from (Md.tr Md.rf hA9373 rfl)), hV9373, (I9373 39), hF, rfl, rfl⟩ dX11_near_60
          · skip
            replace hF := FE.neg hF c9374
            refine g_aload_n hk dX11_near_43 rfl ?_
            refine gX_r0_9 hk hin11 (List.mem_cons_of_mem _ (List.mem_append_left _ (List.mem_of_getElem? (i := 8) rfl))) dX11_near_44 ?_
            refine gX_i38 (v := (I9373 38)) hk hin9 (List.mem_cons_of_mem _ (List.mem_append_left _ (List.mem_of_getElem? (i := 14) rfl))) dX11_near_47 rfl ?_
            refine g_goto (tgt := 60) hk dX11_near_50 (by decide) ?_
            have b9376l := Int32.le_toInt (I9373 38)
            have b9376h := Int32.toInt_lt (I9373 38)
            exact g_iret hk hR rfl ⟨I9373, A9373, (show Md [28, 30, 31, 32, 33, 34, 38, 39] I I9373 from (Md.tr Md.rf hI9373 rfl)), (show Md [21, 22, 23, 30, 31] A A9373 from (Md.tr Md.rf hA9373 rfl)), hV9373, (I9373 38), hF, rfl, rfl⟩ dX11_near_60
noncomputable def bX9_seekPairOf_4 (A : Nat → Nat → Int32) (z1 : Int32) : (Int32 → (Nat → Int32) → (Nat → Nat → Int32) → (Int32 × (Nat → Int32) × (Nat → Nat → Int32))) → Int32 → (Nat → Int32) → (Nat → Nat → Int32) → (Int32 × (Nat → Int32) × (Nat → Nat → Int32)) := fun kk9460 x9398 I9402 A9402 => if 160 ≤ x9398.toInt then (0, I9402, A9402) else if (A 31 x9398.toNatClampNeg).toInt ≠ 0 then f_lt (x9398 * (16 : Int32)) fun y9465 => f_bdX (fX2_takeRight I9402 A9402 y9465) fun _ I9467 A9467 => if 0 ≤ (I9402 42).toInt then f_bdX (fX2_isLess I9467 A9467 (I9402 42)) fun y9470 I9473 A9473 => if y9470.toInt = 0 then f_lt (x9398 + Int32.ofInt 1) fun y9475 => kk9460 y9475 I9473 A9473 else f_lt (fX2_laidDistance (upd (upd I9473 40 z1) 41 x9398) A9473) fun y9476 => f_lt (x9398 + Int32.ofInt 1) fun y9477 => kk9460 y9477 (upd (upd (upd I9473 40 z1) 41 x9398) 42 y9476) A9473 else f_bdX (fX2_isLess I9467 A9467 2147483647) fun y9479 I9482 A9482 => if y9479.toInt = 0 then f_lt (x9398 + Int32.ofInt 1) fun y9484 => kk9460 y9484 I9482 A9482 else f_lt (fX2_laidDistance (upd (upd I9482 40 z1) 41 x9398) A9482) fun y9485 => f_lt (x9398 + Int32.ofInt 1) fun y9486 => kk9460 y9486 (upd (upd (upd I9482 40 z1) 41 x9398) 42 y9485) A9482 else f_lt (x9398 + Int32.ofInt 1) fun y9487 => kk9460 y9487 I9402 A9402
noncomputable def fX9_seekPairOf (I : Nat → Int32) (A : Nat → Nat → Int32) (z1 : Int32) (z2 : Int32) : Int32 × (Nat → Int32) × (Nat → Nat → Int32) := f_lt (z1 + z2) fun y9397 => itr_iIA dfX (bX9_seekPairOf_4 A z1) FU y9397 I A
def wo_k303_X9_seekPairOf : List Cond := [Cond.fieldLink RX9 15 "WarpDesk$Stretches" "isThere" "[Z", Cond.fieldLink RX9 29 "WarpDesk$Stretches" "fit" "LWarpDesk$Fit;", Cond.fieldLink RX9 9 "WarpDesk$Stretches" "rows" "[I", Cond.methodLink RX9 75 yX2_takeRight, Cond.instanceMethod yX2_takeRight, Cond.selects RX2 yX2_takeRight yX2_takeRight, Cond.initialized RX2, Cond.fieldLink RX9 92 "WarpDesk$Stretches" "pairDistance" "I", Cond.methodLink RX9 78 yX2_isLess, Cond.instanceMethod yX2_isLess, Cond.selects RX2 yX2_isLess yX2_isLess, Cond.fieldLink RX9 86 "WarpDesk$Stretches" "pairLesser" "I", Cond.fieldLink RX9 89 "WarpDesk$Stretches" "pairGreater" "I", Cond.methodLink RX9 82 yX2_laidDistance, Cond.instanceMethod yX2_laidDistance, Cond.selects RX2 yX2_laidDistance yX2_laidDistance, Cond.constant RX9 65 (2147483647)]
def wz_k303_X9_seekPairOf : List Cond := .code yX9_seekPairOf cX9_seekPairOf 4 none :: (wo_k303_X9_seekPairOf ++ (wsX90 ++ (wz_k299_X2_takeRight ++ (wz_k264_X2_isLess ++ (wz_k237_X2_laidDistance ++ ([] : List Cond))))))
theorem zg_k303_X9_seekPairOf : ∀ w ∈ wz_k303_X9_seekPairOf, goodWord w = true := zg_cons rfl (zg_app (by decide +kernel) (zg_app zgU_wsX90 (zg_app zg_k299_X2_takeRight (zg_app zg_k264_X2_isLess (zg_app zg_k237_X2_laidDistance zg_nil)))))
theorem zi_k303_X9_seekPairOf : ∀ w ∈ wz_k303_X9_seekPairOf, w ∈ lw_tbl := zi_cons zw_1296 (zi_app (zi_cons zw_449 (zi_cons zw_447 (zi_cons zw_448 (zi_cons zw_1279 (zi_cons zw_1280 (zi_cons zw_1281 (zi_cons zw_112 (zi_cons zw_458 (zi_cons zw_1283 (zi_cons zw_1125 (zi_cons zw_1126 (zi_cons zw_454 (zi_cons zw_456 (zi_cons zw_1284 (zi_cons zw_1014 (zi_cons zw_1015 (zi_cons zw_1273 zi_nil))))))))))))))))) (zi_app inX9 (zi_app zi_k299_X2_takeRight (zi_app zi_k264_X2_isLess (zi_app zi_k237_X2_laidDistance zi_nil)))))
set_option maxHeartbeats 4000000 in
set_option maxRecDepth 100000 in
theorem k303_X9_seekPairOf (l : Launch) (D : va_G) (zt : Nat × Nat × Nat × (Nat → Nat) × (Nat → Nat)) (q : Nat → Nat) (d : Nat → ClassId) (I : Nat → Int32) (A : Nat → Nat → Int32) (z1 : Int32) (z2 : Int32) (hIv : IvX I A) (hp0 : 0 ≤ z1.toInt) (hp1 : z1.toInt ≤ 159) (hp2 : 2 ≤ z2.toInt) (hp3 : z2.toInt ≤ 16) : GM l D zt (tyX d) yX9_seekPairOf wz_k303_X9_seekPairOf ({ frames := 4, cells := 0, slots := 0, locals := 93 } : Room) [.ref (q 49), .int z1, .int z2] (wX q d I A) (fun v _ w' => ∃ (I' : Nat → Int32) (A' : Nat → Nat → Int32), Md [33, 34, 40, 41, 42] I I' ∧ Md [22, 23] A A' ∧ IvX I' A' ∧ FE (fX9_seekPairOf I A z1 z2) (0, I', A') ∧ v = none ∧ w' = wX q d I' A') 0 0 := by
  refine GM.of (cc := cX9_seekPairOf) (maxL := 4) (ret := none) (own := RX9) (lv := [(0, .ref (q 49)), (1, .int z1), (2, .int z2)]) (by decide) rfl rfl (Nat.le_of_ble_eq_true rfl) rfl (fun κ sz hk hR hN => ?_)
  have hin9 : ∀ w ∈ u_ws RX9 TX9 11, w ∈ wz_k303_X9_seekPairOf := fun w h => (List.mem_cons_of_mem _ (List.mem_append_right _ (List.mem_append_left _ h)))
  have hF : FE (fX9_seekPairOf I A z1 z2) (fX9_seekPairOf I A z1 z2) := FE.rf
  refine g_iload_n hk dX9_seekPairOf_0 rfl ?_
  refine g_iload_n hk dX9_seekPairOf_1 rfl ?_
  refine g_iadd hk dX9_seekPairOf_2 ?_
  refine g_topi (fun y9397 ey9397 => ?_)
  replace hF := FE.lt hF ey9397
  have hy9397 : y9397.toInt = z1.toInt + z2.toInt := i32_add ey9397 rfl rfl (by omega) (by omega)
  refine g_istore_n (lv' := [(3, .int y9397), (0, .ref (q 49)), (1, .int z1), (2, .int z2)]) hk dX9_seekPairOf_3 (by decide) rfl ?_
  have lp9457 : ∀ (n9458 : Nat) (x9398 : Int32) (I9402 : Nat → Int32) (A9402 : Nat → Nat → Int32), (Md [33, 34, 40, 41, 42] I I9402) → (Md [22, 23] A A9402) → (IvX I9402 A9402) → (2 ≤ x9398.toInt) → (x9398.toInt ≤ 175) → (161 - x9398.toInt < (n9458 : Int)) → (0 < n9458) → (FE (fX9_seekPairOf I A z1 z2) (itr_iIA dfX (bX9_seekPairOf_4 A z1) n9458 x9398 I9402 A9402)) → GW κ 4 0 0 (wX q d I9402 A9402) 4 [(3, .int x9398), (0, .ref (q 49)), (1, .int z1), (2, .int z2)] [] := by
    intro n9458
    induction n9458 with
    | zero =>
      intro x9398 I9402 A9402 hI9402 hA9402 hV9402 h9455 h9456 m9459 m9459z hF
      exact absurd m9459z (Nat.lt_irrefl 0)
    | succ n9458 ih9461 =>
      intro x9398 I9402 A9402 hI9402 hA9402 hV9402 h9455 h9456 m9459 m9459z hF
      replace hF := FE.itr_iIA hF
      refine g_iload_n hk dX9_seekPairOf_4 rfl ?_
      refine g_sipush (v := 160) hk dX9_seekPairOf_5 (by decide) ?_
      refine g_icmp_ge (tgt := 91) (a := x9398.toInt) (b := 160) hk dX9_seekPairOf_8 (by decide) rfl rfl (fun c9462 => ?_) (fun c9462 => ?_)
      · skip
        replace hF := FE.pos hF c9462
        exact g_vret hk hR ⟨I9402, A9402, (show Md [33, 34, 40, 41, 42] I I9402 from (Md.tr Md.rf hI9402 rfl)), (show Md [22, 23] A A9402 from (Md.tr Md.rf hA9402 rfl)), hV9402, hF, rfl, rfl⟩ dX9_seekPairOf_91
      · skip
        replace hF := FE.neg hF c9462
        refine g_aload_n hk dX9_seekPairOf_11 rfl ?_
        refine gX_r49_3 hk hin9 (List.mem_cons_of_mem _ (List.mem_append_left _ (List.mem_of_getElem? (i := 0) rfl))) dX9_seekPairOf_12 ?_
        refine g_iload_n hk dX9_seekPairOf_15 rfl ?_
        refine lX_31 (v := (A 31 x9398.toNatClampNeg)) hk (vp_in_iff.mpr ⟨by omega, by omega⟩) (congrFun (hA9402 31 rfl) _) dX9_seekPairOf_16 ?_
        have b9463l := Int32.le_toInt (A 31 x9398.toNatClampNeg)
        have b9463h := Int32.toInt_lt (A 31 x9398.toNatClampNeg)
        refine g_if_ne (tgt := 23) (a := (A 31 x9398.toNatClampNeg).toInt) hk dX9_seekPairOf_17 (by decide) rfl (fun c9464 => ?_) (fun c9464 => ?_)
        · skip
          replace hF := FE.pos hF c9464
          refine g_aload_n hk dX9_seekPairOf_23 rfl ?_
          refine gX_r49_1 hk hin9 (List.mem_cons_of_mem _ (List.mem_append_left _ (List.mem_of_getElem? (i := 1) rfl))) dX9_seekPairOf_24 ?_
          refine g_aload_n hk dX9_seekPairOf_27 rfl ?_
          refine gX_r49_2 hk hin9 (List.mem_cons_of_mem _ (List.mem_append_left _ (List.mem_of_getElem? (i := 2) rfl))) dX9_seekPairOf_28 ?_
          refine g_iload_n hk dX9_seekPairOf_31 rfl ?_
          refine g_bipush (v := 16) hk dX9_seekPairOf_32 (by decide) ?_
          refine g_imul hk dX9_seekPairOf_34 ?_
          refine g_topi (fun y9465 ey9465 => ?_)
          replace hF := FE.lt hF ey9465
          have hy9465 : y9465.toInt = x9398.toInt * 16 := i32_mul ey9465 rfl rfl (by omega) (by omega)
          refine g_callV (n := 2) hk (k299_X2_takeRight l D zt q d I9402 A9402 y9465 hV9402) (SP.same _) (fun _ h => h) (gi_V (List.mem_cons_of_mem _ (List.mem_append_left _ (List.mem_of_getElem? (i := 3) rfl))) (List.mem_cons_of_mem _ (List.mem_append_left _ (List.mem_of_getElem? (i := 4) rfl))) (List.mem_cons_of_mem _ (List.mem_append_left _ (List.mem_of_getElem? (i := 5) rfl))) (List.mem_cons_of_mem _ (List.mem_append_left _ (List.mem_of_getElem? (i := 6) rfl))) (gi_sub (fun w h => (List.mem_cons_of_mem _ (List.mem_append_right _ (List.mem_append_right _ (List.mem_append_left _ h))))) zg_k299_X2_takeRight)) rfl rfl rfl (by decide +kernel) ⟨Nat.le_of_ble_eq_true rfl, Nat.le_of_ble_eq_true rfl⟩ 38 rfl rfl rfl rfl (Nat.le_of_ble_eq_true rfl) ⟨Nat.le_of_ble_eq_true rfl, Nat.le_of_ble_eq_true rfl⟩ dX9_seekPairOf_35 (fun v ty' w' hp hk' => ?_)
          obtain ⟨I9467, A9467, hI9467, hA9467, hV9467, hC, rfl, rfl⟩ := hp
          replace hF := FE.bdX hF hC
          show GW κ 4 0 0 (wX q d I9467 A9467) 38 [(3, .int x9398), (0, .ref (q 49)), (1, .int z1), (2, .int z2)] []
          refine g_aload_n hk dX9_seekPairOf_38 rfl ?_
          refine gX_r49_1 hk hin9 (List.mem_cons_of_mem _ (List.mem_append_left _ (List.mem_of_getElem? (i := 1) rfl))) dX9_seekPairOf_39 ?_
          refine g_aload_n hk dX9_seekPairOf_42 rfl ?_
          refine gX_i42 (v := (I9402 42)) hk hin9 (List.mem_cons_of_mem _ (List.mem_append_left _ (List.mem_of_getElem? (i := 7) rfl))) dX9_seekPairOf_43 (hI9467 42 rfl) ?_
          have b9468l := Int32.le_toInt (I9402 42)
          have b9468h := Int32.toInt_lt (I9402 42)
          refine g_if_ge (tgt := 54) (a := (I9402 42).toInt) hk dX9_seekPairOf_46 (by decide) rfl (fun c9469 => ?_) (fun c9469 => ?_)
          · skip
            replace hF := FE.pos hF c9469
            refine g_aload_n hk dX9_seekPairOf_54 rfl ?_
            refine gX_i42 (v := (I9402 42)) hk hin9 (List.mem_cons_of_mem _ (List.mem_append_left _ (List.mem_of_getElem? (i := 7) rfl))) dX9_seekPairOf_55 (hI9467 42 rfl) ?_
            refine g_callV (n := 1) hk (k264_X2_isLess l D zt q d I9467 A9467 (I9402 42) hV9467) (SP.same _) (fun _ h => h) (gi_V (List.mem_cons_of_mem _ (List.mem_append_left _ (List.mem_of_getElem? (i := 8) rfl))) (List.mem_cons_of_mem _ (List.mem_append_left _ (List.mem_of_getElem? (i := 9) rfl))) (List.mem_cons_of_mem _ (List.mem_append_left _ (List.mem_of_getElem? (i := 10) rfl))) (List.mem_cons_of_mem _ (List.mem_append_left _ (List.mem_of_getElem? (i := 6) rfl))) (gi_sub (fun w h => (List.mem_cons_of_mem _ (List.mem_append_right _ (List.mem_append_right _ (List.mem_append_right _ (List.mem_append_left _ h)))))) zg_k264_X2_isLess)) rfl rfl rfl (by decide +kernel) ⟨Nat.le_of_ble_eq_true rfl, Nat.le_of_ble_eq_true rfl⟩ 38 rfl rfl rfl rfl (Nat.le_of_ble_eq_true rfl) ⟨Nat.le_of_ble_eq_true rfl, Nat.le_of_ble_eq_true rfl⟩ dX9_seekPairOf_58 (fun v ty' w' hp hk' => ?_)
            obtain ⟨I9473, A9473, hI9473, hA9473, hV9473, y9470, c9471, c9472, hC, rfl, rfl⟩ := hp
            replace hF := FE.bdX hF hC
            show GW κ 4 0 0 (wX q d I9473 A9473) 61 [(3, .int x9398), (0, .ref (q 49)), (1, .int z1), (2, .int z2)] [.int y9470]
            refine g_if_eq (tgt := 85) (a := y9470.toInt) hk dX9_seekPairOf_61 (by decide) rfl (fun c9474 => ?_) (fun c9474 => ?_)
            · skip
              replace hF := FE.pos hF c9474
              obtain ⟨y9475, ey9475⟩ : ∃ y : Int32, y = x9398 + Int32.ofInt 1 := ⟨_, rfl⟩
              replace hF := FE.lt hF ey9475
              have hy9475 : y9475.toInt = x9398.toInt + 1 := i32_add ey9475 rfl (by decide) (by omega) (by omega)
              refine g_iinc (v := y9475) (lv' := [(3, .int y9475), (0, .ref (q 49)), (1, .int z1), (2, .int z2)]) hk 0 dX9_seekPairOf_85 rfl ey9475.symm (by decide) rfl ?_
              refine g_goto (tgt := 4) hk dX9_seekPairOf_88 (by decide) ?_
              exact g_lv (List.forall_mem_cons.mpr ⟨List.mem_of_getElem? (i := 0) rfl, (List.forall_mem_cons.mpr ⟨List.mem_of_getElem? (i := 1) rfl, (List.forall_mem_cons.mpr ⟨List.mem_of_getElem? (i := 2) rfl, (List.forall_mem_cons.mpr ⟨List.mem_of_getElem? (i := 3) rfl, (fun _ h => absurd h List.not_mem_nil)⟩)⟩)⟩)⟩) (ih9461 y9475 I9473 A9473 (show Md [33, 34, 40, 41, 42] I I9473 from Md.tr hI9402 (show Md [33, 34, 40, 41, 42] I9402 I9473 from (Md.tr (Md.tr Md.rf hI9467 rfl) hI9473 rfl)) rfl) (show Md [22, 23] A A9473 from Md.tr hA9402 (show Md [22, 23] A9402 A9473 from (Md.tr (Md.tr Md.rf hA9467 rfl) hA9473 rfl)) rfl) hV9473 (by omega) (by omega) (by omega) (by omega) hF)
            · skip
              replace hF := FE.neg hF c9474
              refine g_aload_n hk dX9_seekPairOf_64 rfl ?_
              refine g_iload_n hk dX9_seekPairOf_65 rfl ?_
              refine pX_i40 hk hin9 (List.mem_cons_of_mem _ (List.mem_append_left _ (List.mem_of_getElem? (i := 11) rfl))) dX9_seekPairOf_66 ?_
              refine g_aload_n hk dX9_seekPairOf_69 rfl ?_
              refine g_iload_n hk dX9_seekPairOf_70 rfl ?_
              refine pX_i41 hk hin9 (List.mem_cons_of_mem _ (List.mem_append_left _ (List.mem_of_getElem? (i := 12) rfl))) dX9_seekPairOf_71 ?_
              refine g_aload_n hk dX9_seekPairOf_74 rfl ?_
              refine g_aload_n hk dX9_seekPairOf_75 rfl ?_
              refine gX_r49_1 hk hin9 (List.mem_cons_of_mem _ (List.mem_append_left _ (List.mem_of_getElem? (i := 1) rfl))) dX9_seekPairOf_76 ?_
              refine g_callV (n := 0) hk (k237_X2_laidDistance l D zt q d (upd (upd I9473 40 z1) 41 x9398) A9473  ⟨(IvX_f0 (I := I9473) (A := A9473) hV9473), (IvX_f18 (I := I9473) (A := A9473) hV9473), (IvX_f30 (I := I9473) (A := A9473) hV9473), (IvX_f31 (I := I9473) (A := A9473) hV9473), (IvX_a4 (I := I9473) (A := A9473) hV9473), (IvX_a9 (I := I9473) (A := A9473) hV9473), trivial⟩) (SP.same _) (fun _ h => h) (gi_V (List.mem_cons_of_mem _ (List.mem_append_left _ (List.mem_of_getElem? (i := 13) rfl))) (List.mem_cons_of_mem _ (List.mem_append_left _ (List.mem_of_getElem? (i := 14) rfl))) (List.mem_cons_of_mem _ (List.mem_append_left _ (List.mem_of_getElem? (i := 15) rfl))) (List.mem_cons_of_mem _ (List.mem_append_left _ (List.mem_of_getElem? (i := 6) rfl))) (gi_sub (fun w h => (List.mem_cons_of_mem _ (List.mem_append_right _ (List.mem_append_right _ (List.mem_append_right _ (List.mem_append_right _ (List.mem_append_left _ h))))))) zg_k237_X2_laidDistance)) rfl rfl rfl (by decide +kernel) ⟨Nat.le_of_ble_eq_true rfl, Nat.le_of_ble_eq_true rfl⟩ 38 rfl rfl rfl rfl (Nat.le_of_ble_eq_true rfl) ⟨Nat.le_of_ble_eq_true rfl, Nat.le_of_ble_eq_true rfl⟩ dX9_seekPairOf_79 (fun v ty' w' hp hk' => ?_)
              obtain ⟨y9476, hC, rfl, rfl⟩ := hp
              replace hF := FE.lt hF (fe_s hC)
              show GW κ 4 0 0 (wX q d (upd (upd I9473 40 z1) 41 x9398) A9473) 82 [(3, .int x9398), (0, .ref (q 49)), (1, .int z1), (2, .int z2)] [.int y9476, .ref (q 49)]
              refine pX_i42 hk hin9 (List.mem_cons_of_mem _ (List.mem_append_left _ (List.mem_of_getElem? (i := 7) rfl))) dX9_seekPairOf_82 ?_
              obtain ⟨y9477, ey9477⟩ : ∃ y : Int32, y = x9398 + Int32.ofInt 1 := ⟨_, rfl⟩
              replace hF := FE.lt hF ey9477
              have hy9477 : y9477.toInt = x9398.toInt + 1 := i32_add ey9477 rfl (by decide) (by omega) (by omega)
              refine g_iinc (v := y9477) (lv' := [(3, .int y9477), (0, .ref (q 49)), (1, .int z1), (2, .int z2)]) hk 0 dX9_seekPairOf_85 rfl ey9477.symm (by decide) rfl ?_
              refine g_goto (tgt := 4) hk dX9_seekPairOf_88 (by decide) ?_
              exact g_lv (List.forall_mem_cons.mpr ⟨List.mem_of_getElem? (i := 0) rfl, (List.forall_mem_cons.mpr ⟨List.mem_of_getElem? (i := 1) rfl, (List.forall_mem_cons.mpr ⟨List.mem_of_getElem? (i := 2) rfl, (List.forall_mem_cons.mpr ⟨List.mem_of_getElem? (i := 3) rfl, (fun _ h => absurd h List.not_mem_nil)⟩)⟩)⟩)⟩) (ih9461 y9477 (upd (upd (upd I9473 40 z1) 41 x9398) 42 y9476) A9473 (show Md [33, 34, 40, 41, 42] I (upd (upd (upd I9473 40 z1) 41 x9398) 42 y9476) from Md.tr hI9402 (show Md [33, 34, 40, 41, 42] I9402 (upd (upd (upd I9473 40 z1) 41 x9398) 42 y9476) from (Md.up (Md.up (Md.up (Md.tr (Md.tr Md.rf hI9467 rfl) hI9473 rfl) rfl) rfl) rfl)) rfl) (show Md [22, 23] A A9473 from Md.tr hA9402 (show Md [22, 23] A9402 A9473 from (Md.tr (Md.tr Md.rf hA9467 rfl) hA9473 rfl)) rfl) ⟨(IvX_f0 (I := I9473) (A := A9473) hV9473), (IvX_f18 (I := I9473) (A := A9473) hV9473), (IvX_f30 (I := I9473) (A := A9473) hV9473), (IvX_f31 (I := I9473) (A := A9473) hV9473), (IvX_a4 (I := I9473) (A := A9473) hV9473), (IvX_a9 (I := I9473) (A := A9473) hV9473), trivial⟩ (by omega) (by omega) (by omega) (by omega) hF)
          · skip
            replace hF := FE.neg hF c9469
            refine g_ldc (v := 2147483647) hk (List.mem_cons_of_mem _ (List.mem_append_left _ (List.mem_of_getElem? (i := 16) rfl))) dX9_seekPairOf_49 ?_
            refine g_goto (tgt := 58) hk dX9_seekPairOf_51 (by decide) ?_
            have k9478 : (2147483647 : Int32).toInt = 2147483647 := rfl
            refine g_callV (n := 1) hk (k264_X2_isLess l D zt q d I9467 A9467 2147483647 hV9467) (SP.same _) (fun _ h => h) (gi_V (List.mem_cons_of_mem _ (List.mem_append_left _ (List.mem_of_getElem? (i := 8) rfl))) (List.mem_cons_of_mem _ (List.mem_append_left _ (List.mem_of_getElem? (i := 9) rfl))) (List.mem_cons_of_mem _ (List.mem_append_left _ (List.mem_of_getElem? (i := 10) rfl))) (List.mem_cons_of_mem _ (List.mem_append_left _ (List.mem_of_getElem? (i := 6) rfl))) (gi_sub (fun w h => (List.mem_cons_of_mem _ (List.mem_append_right _ (List.mem_append_right _ (List.mem_append_right _ (List.mem_append_left _ h)))))) zg_k264_X2_isLess)) rfl rfl rfl (by decide +kernel) ⟨Nat.le_of_ble_eq_true rfl, Nat.le_of_ble_eq_true rfl⟩ 38 rfl rfl rfl rfl (Nat.le_of_ble_eq_true rfl) ⟨Nat.le_of_ble_eq_true rfl, Nat.le_of_ble_eq_true rfl⟩ dX9_seekPairOf_58 (fun v ty' w' hp hk' => ?_)
            obtain ⟨I9482, A9482, hI9482, hA9482, hV9482, y9479, c9480, c9481, hC, rfl, rfl⟩ := hp
            replace hF := FE.bdX hF hC
            show GW κ 4 0 0 (wX q d I9482 A9482) 61 [(3, .int x9398), (0, .ref (q 49)), (1, .int z1), (2, .int z2)] [.int y9479]
            refine g_if_eq (tgt := 85) (a := y9479.toInt) hk dX9_seekPairOf_61 (by decide) rfl (fun c9483 => ?_) (fun c9483 => ?_)
            · skip
              replace hF := FE.pos hF c9483
              obtain ⟨y9484, ey9484⟩ : ∃ y : Int32, y = x9398 + Int32.ofInt 1 := ⟨_, rfl⟩
              replace hF := FE.lt hF ey9484
              have hy9484 : y9484.toInt = x9398.toInt + 1 := i32_add ey9484 rfl (by decide) (by omega) (by omega)
              refine g_iinc (v := y9484) (lv' := [(3, .int y9484), (0, .ref (q 49)), (1, .int z1), (2, .int z2)]) hk 0 dX9_seekPairOf_85 rfl ey9484.symm (by decide) rfl ?_
              refine g_goto (tgt := 4) hk dX9_seekPairOf_88 (by decide) ?_
              exact g_lv (List.forall_mem_cons.mpr ⟨List.mem_of_getElem? (i := 0) rfl, (List.forall_mem_cons.mpr ⟨List.mem_of_getElem? (i := 1) rfl, (List.forall_mem_cons.mpr ⟨List.mem_of_getElem? (i := 2) rfl, (List.forall_mem_cons.mpr ⟨List.mem_of_getElem? (i := 3) rfl, (fun _ h => absurd h List.not_mem_nil)⟩)⟩)⟩)⟩) (ih9461 y9484 I9482 A9482 (show Md [33, 34, 40, 41, 42] I I9482 from Md.tr hI9402 (show Md [33, 34, 40, 41, 42] I9402 I9482 from (Md.tr (Md.tr Md.rf hI9467 rfl) hI9482 rfl)) rfl) (show Md [22, 23] A A9482 from Md.tr hA9402 (show Md [22, 23] A9402 A9482 from (Md.tr (Md.tr Md.rf hA9467 rfl) hA9482 rfl)) rfl) hV9482 (by omega) (by omega) (by omega) (by omega) hF)
            · skip
              replace hF := FE.neg hF c9483
              refine g_aload_n hk dX9_seekPairOf_64 rfl ?_
              refine g_iload_n hk dX9_seekPairOf_65 rfl ?_
              refine pX_i40 hk hin9 (List.mem_cons_of_mem _ (List.mem_append_left _ (List.mem_of_getElem? (i := 11) rfl))) dX9_seekPairOf_66 ?_
              refine g_aload_n hk dX9_seekPairOf_69 rfl ?_
              refine g_iload_n hk dX9_seekPairOf_70 rfl ?_
              refine pX_i41 hk hin9 (List.mem_cons_of_mem _ (List.mem_append_left _ (List.mem_of_getElem? (i := 12) rfl))) dX9_seekPairOf_71 ?_
              refine g_aload_n hk dX9_seekPairOf_74 rfl ?_
              refine g_aload_n hk dX9_seekPairOf_75 rfl ?_
              refine gX_r49_1 hk hin9 (List.mem_cons_of_mem _ (List.mem_append_left _ (List.mem_of_getElem? (i := 1) rfl))) dX9_seekPairOf_76 ?_
              refine g_callV (n := 0) hk (k237_X2_laidDistance l D zt q d (upd (upd I9482 40 z1) 41 x9398) A9482  ⟨(IvX_f0 (I := I9482) (A := A9482) hV9482), (IvX_f18 (I := I9482) (A := A9482) hV9482), (IvX_f30 (I := I9482) (A := A9482) hV9482), (IvX_f31 (I := I9482) (A := A9482) hV9482), (IvX_a4 (I := I9482) (A := A9482) hV9482), (IvX_a9 (I := I9482) (A := A9482) hV9482), trivial⟩) (SP.same _) (fun _ h => h) (gi_V (List.mem_cons_of_mem _ (List.mem_append_left _ (List.mem_of_getElem? (i := 13) rfl))) (List.mem_cons_of_mem _ (List.mem_append_left _ (List.mem_of_getElem? (i := 14) rfl))) (List.mem_cons_of_mem _ (List.mem_append_left _ (List.mem_of_getElem? (i := 15) rfl))) (List.mem_cons_of_mem _ (List.mem_append_left _ (List.mem_of_getElem? (i := 6) rfl))) (gi_sub (fun w h => (List.mem_cons_of_mem _ (List.mem_append_right _ (List.mem_append_right _ (List.mem_append_right _ (List.mem_append_right _ (List.mem_append_left _ h))))))) zg_k237_X2_laidDistance)) rfl rfl rfl (by decide +kernel) ⟨Nat.le_of_ble_eq_true rfl, Nat.le_of_ble_eq_true rfl⟩ 38 rfl rfl rfl rfl (Nat.le_of_ble_eq_true rfl) ⟨Nat.le_of_ble_eq_true rfl, Nat.le_of_ble_eq_true rfl⟩ dX9_seekPairOf_79 (fun v ty' w' hp hk' => ?_)
              obtain ⟨y9485, hC, rfl, rfl⟩ := hp
              replace hF := FE.lt hF (fe_s hC)
              show GW κ 4 0 0 (wX q d (upd (upd I9482 40 z1) 41 x9398) A9482) 82 [(3, .int x9398), (0, .ref (q 49)), (1, .int z1), (2, .int z2)] [.int y9485, .ref (q 49)]
              refine pX_i42 hk hin9 (List.mem_cons_of_mem _ (List.mem_append_left _ (List.mem_of_getElem? (i := 7) rfl))) dX9_seekPairOf_82 ?_
              obtain ⟨y9486, ey9486⟩ : ∃ y : Int32, y = x9398 + Int32.ofInt 1 := ⟨_, rfl⟩
              replace hF := FE.lt hF ey9486
              have hy9486 : y9486.toInt = x9398.toInt + 1 := i32_add ey9486 rfl (by decide) (by omega) (by omega)
              refine g_iinc (v := y9486) (lv' := [(3, .int y9486), (0, .ref (q 49)), (1, .int z1), (2, .int z2)]) hk 0 dX9_seekPairOf_85 rfl ey9486.symm (by decide) rfl ?_
              refine g_goto (tgt := 4) hk dX9_seekPairOf_88 (by decide) ?_
              exact g_lv (List.forall_mem_cons.mpr ⟨List.mem_of_getElem? (i := 0) rfl, (List.forall_mem_cons.mpr ⟨List.mem_of_getElem? (i := 1) rfl, (List.forall_mem_cons.mpr ⟨List.mem_of_getElem? (i := 2) rfl, (List.forall_mem_cons.mpr ⟨List.mem_of_getElem? (i := 3) rfl, (fun _ h => absurd h List.not_mem_nil)⟩)⟩)⟩)⟩) (ih9461 y9486 (upd (upd (upd I9482 40 z1) 41 x9398) 42 y9485) A9482 (show Md [33, 34, 40, 41, 42] I (upd (upd (upd I9482 40 z1) 41 x9398) 42 y9485) from Md.tr hI9402 (show Md [33, 34, 40, 41, 42] I9402 (upd (upd (upd I9482 40 z1) 41 x9398) 42 y9485) from (Md.up (Md.up (Md.up (Md.tr (Md.tr Md.rf hI9467 rfl) hI9482 rfl) rfl) rfl) rfl)) rfl) (show Md [22, 23] A A9482 from Md.tr hA9402 (show Md [22, 23] A9402 A9482 from (Md.tr (Md.tr Md.rf hA9467 rfl) hA9482 rfl)) rfl) ⟨(IvX_f0 (I := I9482) (A := A9482) hV9482), (IvX_f18 (I := I9482) (A := A9482) hV9482), (IvX_f30 (I := I9482) (A := A9482) hV9482), (IvX_f31 (I := I9482) (A := A9482) hV9482), (IvX_a4 (I := I9482) (A := A9482) hV9482), (IvX_a9 (I := I9482) (A := A9482) hV9482), trivial⟩ (by omega) (by omega) (by omega) (by omega) hF)
        · skip
          replace hF := FE.neg hF c9464
          refine g_goto (tgt := 85) hk dX9_seekPairOf_20 (by decide) ?_
          obtain ⟨y9487, ey9487⟩ : ∃ y : Int32, y = x9398 + Int32.ofInt 1 := ⟨_, rfl⟩
          replace hF := FE.lt hF ey9487
          have hy9487 : y9487.toInt = x9398.toInt + 1 := i32_add ey9487 rfl (by decide) (by omega) (by omega)
          refine g_iinc (v := y9487) (lv' := [(3, .int y9487), (0, .ref (q 49)), (1, .int z1), (2, .int z2)]) hk 0 dX9_seekPairOf_85 rfl ey9487.symm (by decide) rfl ?_
          refine g_goto (tgt := 4) hk dX9_seekPairOf_88 (by decide) ?_
          exact g_lv (List.forall_mem_cons.mpr ⟨List.mem_of_getElem? (i := 0) rfl, (List.forall_mem_cons.mpr ⟨List.mem_of_getElem? (i := 1) rfl, (List.forall_mem_cons.mpr ⟨List.mem_of_getElem? (i := 2) rfl, (List.forall_mem_cons.mpr ⟨List.mem_of_getElem? (i := 3) rfl, (fun _ h => absurd h List.not_mem_nil)⟩)⟩)⟩)⟩) (ih9461 y9487 I9402 A9402 (show Md [33, 34, 40, 41, 42] I I9402 from Md.tr hI9402 (show Md [33, 34, 40, 41, 42] I9402 I9402 from Md.rf) rfl) (show Md [22, 23] A A9402 from Md.tr hA9402 (show Md [22, 23] A9402 A9402 from Md.rf) rfl) hV9402 (by omega) (by omega) (by omega) (by omega) hF)
  have b9489 := Int32.le_toInt y9397
  have b9490 := Int32.toInt_lt y9397
  have n9488a : 161 - y9397.toInt < (FU : Int) := by have := FU_eq; omega
  have n9488b : 0 < FU := by have := FU_eq; omega
  exact lp9457 FU y9397 I A Md.rf Md.rf hIv (by omega) (by omega) n9488a n9488b hF
noncomputable def bX9_findPair_25 (A9387 : Nat → Nat → Int32) (z1 : Int32) : (Int32 → (Nat → Int32) → (Nat → Nat → Int32) → (Int32 × (Nat → Int32) × (Nat → Nat → Int32))) → Int32 → (Nat → Int32) → (Nat → Nat → Int32) → (Int32 × (Nat → Int32) × (Nat → Nat → Int32)) := fun kk9528 x9388 I9391 A9391 => if 160 ≤ x9388.toInt then (0, I9391, A9391) else if (A9387 31 x9388.toNatClampNeg).toInt = 0 then f_lt (x9388 + Int32.ofInt 1) fun y9533 => kk9528 y9533 I9391 A9391 else f_lt (x9388 * (16 : Int32)) fun y9534 => f_bdX (fX2_takeLeft I9391 A9391 y9534) fun _ I9536 A9536 => f_bdX (fX9_seekPairOf I9536 A9536 x9388 z1) fun _ I9538 A9538 => f_lt (x9388 + Int32.ofInt 1) fun y9539 => kk9528 y9539 I9538 A9538
noncomputable def fX9_findPair (I : Nat → Int32) (A : Nat → Nat → Int32) (z1 : Int32) : Int32 × (Nat → Int32) × (Nat → Nat → Int32) := f_bdX (fX9_bringAll (upd (upd (upd I 40 (-2)) 41 (-2)) 42 (-2)) A z1) fun _ I9387 A9387 => itr_iIA dfX (bX9_findPair_25 A9387 z1) FU 0 I9387 A9387
def wo_k302_X9_findPair : List Cond := [Cond.fieldLink RX9 86 "WarpDesk$Stretches" "pairLesser" "I", Cond.fieldLink RX9 89 "WarpDesk$Stretches" "pairGreater" "I", Cond.fieldLink RX9 92 "WarpDesk$Stretches" "pairDistance" "I", Cond.methodLink RX9 50 yX9_bringAll, Cond.instanceMethod yX9_bringAll, Cond.selects RX9 yX9_bringAll yX9_bringAll, Cond.initialized RX9, Cond.fieldLink RX9 15 "WarpDesk$Stretches" "isThere" "[Z", Cond.fieldLink RX9 29 "WarpDesk$Stretches" "fit" "LWarpDesk$Fit;", Cond.fieldLink RX9 9 "WarpDesk$Stretches" "rows" "[I", Cond.methodLink RX9 66 yX2_takeLeft, Cond.instanceMethod yX2_takeLeft, Cond.selects RX2 yX2_takeLeft yX2_takeLeft, Cond.initialized RX2, Cond.methodLink RX9 95 yX9_seekPairOf, Cond.instanceMethod yX9_seekPairOf, Cond.selects RX9 yX9_seekPairOf yX9_seekPairOf]
def wz_k302_X9_findPair : List Cond := .code yX9_findPair cX9_findPair 3 none :: (wo_k302_X9_findPair ++ (wsX90 ++ (wz_k293_X9_bringAll ++ (wz_k297_X2_takeLeft ++ (wz_k303_X9_seekPairOf ++ ([] : List Cond))))))
theorem zg_k302_X9_findPair : ∀ w ∈ wz_k302_X9_findPair, goodWord w = true := zg_cons rfl (zg_app (by decide +kernel) (zg_app zgU_wsX90 (zg_app zg_k293_X9_bringAll (zg_app zg_k297_X2_takeLeft (zg_app zg_k303_X9_seekPairOf zg_nil)))))
theorem zi_k302_X9_findPair : ∀ w ∈ wz_k302_X9_findPair, w ∈ lw_tbl := zi_cons zw_1292 (zi_app (zi_cons zw_454 (zi_cons zw_456 (zi_cons zw_458 (zi_cons zw_1255 (zi_cons zw_1257 (zi_cons zw_39 (zi_cons zw_114 (zi_cons zw_449 (zi_cons zw_447 (zi_cons zw_448 (zi_cons zw_1274 (zi_cons zw_1275 (zi_cons zw_1276 (zi_cons zw_112 (zi_cons zw_1293 (zi_cons zw_1295 (zi_cons zw_42 zi_nil))))))))))))))))) (zi_app inX9 (zi_app zi_k293_X9_bringAll (zi_app zi_k297_X2_takeLeft (zi_app zi_k303_X9_seekPairOf zi_nil)))))
set_option maxHeartbeats 4000000 in
set_option maxRecDepth 100000 in
theorem k302_X9_findPair (l : Launch) (D : va_G) (zt : Nat × Nat × Nat × (Nat → Nat) × (Nat → Nat)) (q : Nat → Nat) (d : Nat → ClassId) (I : Nat → Int32) (A : Nat → Nat → Int32) (z1 : Int32) (hIv : IvX I A) (hp0 : 2 ≤ z1.toInt) (hp1 : z1.toInt ≤ 16) : GM l D zt (tyX d) yX9_findPair wz_k302_X9_findPair ({ frames := 5, cells := 0, slots := 0, locals := 116 } : Room) [.ref (q 49), .int z1] (wX q d I A) (fun v _ w' => ∃ (I' : Nat → Int32) (A' : Nat → Nat → Int32), Md [28, 30, 31, 32, 33, 34, 40, 41, 42] I I' ∧ Md [21, 22, 23, 30, 31] A A' ∧ IvX I' A' ∧ FE (fX9_findPair I A z1) (0, I', A') ∧ v = none ∧ w' = wX q d I' A') 0 0 := by
  refine GM.of (cc := cX9_findPair) (maxL := 3) (ret := none) (own := RX9) (lv := [(0, .ref (q 49)), (1, .int z1)]) (by decide) rfl rfl (Nat.le_of_ble_eq_true rfl) rfl (fun κ sz hk hR hN => ?_)
  have hin9 : ∀ w ∈ u_ws RX9 TX9 11, w ∈ wz_k302_X9_findPair := fun w h => (List.mem_cons_of_mem _ (List.mem_append_right _ (List.mem_append_left _ h)))
  have hF : FE (fX9_findPair I A z1) (fX9_findPair I A z1) := FE.rf
  refine g_aload_n hk dX9_findPair_0 rfl ?_
  refine g_bipush (v := (-2)) hk dX9_findPair_1 (by decide) ?_
  refine pX_i40 hk hin9 (List.mem_cons_of_mem _ (List.mem_append_left _ (List.mem_of_getElem? (i := 0) rfl))) dX9_findPair_3 ?_
  refine g_aload_n hk dX9_findPair_6 rfl ?_
  refine g_bipush (v := (-2)) hk dX9_findPair_7 (by decide) ?_
  refine pX_i41 hk hin9 (List.mem_cons_of_mem _ (List.mem_append_left _ (List.mem_of_getElem? (i := 1) rfl))) dX9_findPair_9 ?_
  refine g_aload_n hk dX9_findPair_12 rfl ?_
  refine g_bipush (v := (-2)) hk dX9_findPair_13 (by decide) ?_
  refine pX_i42 hk hin9 (List.mem_cons_of_mem _ (List.mem_append_left _ (List.mem_of_getElem? (i := 2) rfl))) dX9_findPair_15 ?_
  refine g_aload_n hk dX9_findPair_18 rfl ?_
  refine g_iload_n hk dX9_findPair_19 rfl ?_
  refine g_callV (n := 1) hk (k293_X9_bringAll l D zt q d (upd (upd (upd I 40 (-2)) 41 (-2)) 42 (-2)) A z1 ⟨(IvX_f0 (I := I) (A := A) hIv), (IvX_f18 (I := I) (A := A) hIv), (IvX_f30 (I := I) (A := A) hIv), (IvX_f31 (I := I) (A := A) hIv), (IvX_a4 (I := I) (A := A) hIv), (IvX_a9 (I := I) (A := A) hIv), trivial⟩) (SP.same _) (fun _ h => h) (gi_V (List.mem_cons_of_mem _ (List.mem_append_left _ (List.mem_of_getElem? (i := 3) rfl))) (List.mem_cons_of_mem _ (List.mem_append_left _ (List.mem_of_getElem? (i := 4) rfl))) (List.mem_cons_of_mem _ (List.mem_append_left _ (List.mem_of_getElem? (i := 5) rfl))) (List.mem_cons_of_mem _ (List.mem_append_left _ (List.mem_of_getElem? (i := 6) rfl))) (gi_sub (fun w h => (List.mem_cons_of_mem _ (List.mem_append_right _ (List.mem_append_right _ (List.mem_append_left _ h))))) zg_k293_X9_bringAll)) rfl rfl rfl (by decide +kernel) ⟨Nat.le_of_ble_eq_true rfl, Nat.le_of_ble_eq_true rfl⟩ 49 rfl rfl rfl rfl (Nat.le_of_ble_eq_true rfl) ⟨Nat.le_of_ble_eq_true rfl, Nat.le_of_ble_eq_true rfl⟩ dX9_findPair_20 (fun v ty' w' hp hk' => ?_)
  obtain ⟨I9387, A9387, hI9387, hA9387, hV9387, hC, rfl, rfl⟩ := hp
  replace hF := FE.bdX hF hC
  show GW κ 3 0 0 (wX q d I9387 A9387) 23 [(0, .ref (q 49)), (1, .int z1)] []
  refine g_iconst (v := 0) hk dX9_findPair_23 (by decide) ?_
  refine g_istore_n (lv' := [(2, .int 0), (0, .ref (q 49)), (1, .int z1)]) hk dX9_findPair_24 (by decide) rfl ?_
  have lp9525 : ∀ (n9526 : Nat) (x9388 : Int32) (I9391 : Nat → Int32) (A9391 : Nat → Nat → Int32), (Md [33, 34, 40, 41, 42] I9387 I9391) → (Md [21, 22, 23] A9387 A9391) → (IvX I9391 A9391) → (0 ≤ x9388.toInt) → (x9388.toInt ≤ 160) → (161 - x9388.toInt < (n9526 : Int)) → (0 < n9526) → (FE (fX9_findPair I A z1) (itr_iIA dfX (bX9_findPair_25 A9387 z1) n9526 x9388 I9391 A9391)) → GW κ 3 0 0 (wX q d I9391 A9391) 25 [(2, .int x9388), (0, .ref (q 49)), (1, .int z1)] [] := by
    intro n9526
    induction n9526 with
    | zero =>
      intro x9388 I9391 A9391 hI9391 hA9391 hV9391 h9523 h9524 m9527 m9527z hF
      exact absurd m9527z (Nat.lt_irrefl 0)
    | succ n9526 ih9529 =>
      intro x9388 I9391 A9391 hI9391 hA9391 hV9391 h9523 h9524 m9527 m9527z hF
      replace hF := FE.itr_iIA hF
      refine g_iload_n hk dX9_findPair_25 rfl ?_
      refine g_sipush (v := 160) hk dX9_findPair_26 (by decide) ?_
      refine g_icmp_ge (tgt := 68) (a := x9388.toInt) (b := 160) hk dX9_findPair_29 (by decide) rfl rfl (fun c9530 => ?_) (fun c9530 => ?_)
      · skip
        replace hF := FE.pos hF c9530
        exact g_vret hk hR ⟨I9391, A9391, (show Md [28, 30, 31, 32, 33, 34, 40, 41, 42] I I9391 from (Md.tr (Md.tr (Md.up (Md.up (Md.up Md.rf rfl) rfl) rfl) hI9387 rfl) hI9391 rfl)), (show Md [21, 22, 23, 30, 31] A A9391 from (Md.tr (Md.tr Md.rf hA9387 rfl) hA9391 rfl)), hV9391, hF, rfl, rfl⟩ dX9_findPair_68
      · skip
        replace hF := FE.neg hF c9530
        refine g_aload_n hk dX9_findPair_32 rfl ?_
        refine gX_r49_3 hk hin9 (List.mem_cons_of_mem _ (List.mem_append_left _ (List.mem_of_getElem? (i := 7) rfl))) dX9_findPair_33 ?_
        refine g_iload_n hk dX9_findPair_36 rfl ?_
        refine lX_31 (v := (A9387 31 x9388.toNatClampNeg)) hk (vp_in_iff.mpr ⟨by omega, by omega⟩) (congrFun (hA9391 31 rfl) _) dX9_findPair_37 ?_
        have b9531l := Int32.le_toInt (A9387 31 x9388.toNatClampNeg)
        have b9531h := Int32.toInt_lt (A9387 31 x9388.toNatClampNeg)
        refine g_if_eq (tgt := 62) (a := (A9387 31 x9388.toNatClampNeg).toInt) hk dX9_findPair_38 (by decide) rfl (fun c9532 => ?_) (fun c9532 => ?_)
        · skip
          replace hF := FE.pos hF c9532
          obtain ⟨y9533, ey9533⟩ : ∃ y : Int32, y = x9388 + Int32.ofInt 1 := ⟨_, rfl⟩
          replace hF := FE.lt hF ey9533
          have hy9533 : y9533.toInt = x9388.toInt + 1 := i32_add ey9533 rfl (by decide) (by omega) (by omega)
          refine g_iinc (v := y9533) (lv' := [(2, .int y9533), (0, .ref (q 49)), (1, .int z1)]) hk 0 dX9_findPair_62 rfl ey9533.symm (by decide) rfl ?_
          refine g_goto (tgt := 25) hk dX9_findPair_65 (by decide) ?_
          exact g_lv (List.forall_mem_cons.mpr ⟨List.mem_of_getElem? (i := 0) rfl, (List.forall_mem_cons.mpr ⟨List.mem_of_getElem? (i := 1) rfl, (List.forall_mem_cons.mpr ⟨List.mem_of_getElem? (i := 2) rfl, (fun _ h => absurd h List.not_mem_nil)⟩)⟩)⟩) (ih9529 y9533 I9391 A9391 (show Md [33, 34, 40, 41, 42] I9387 I9391 from Md.tr hI9391 (show Md [33, 34, 40, 41, 42] I9391 I9391 from Md.rf) rfl) (show Md [21, 22, 23] A9387 A9391 from Md.tr hA9391 (show Md [21, 22, 23] A9391 A9391 from Md.rf) rfl) hV9391 (by omega) (by omega) (by omega) (by omega) hF)
        · skip
          replace hF := FE.neg hF c9532
          refine g_aload_n hk dX9_findPair_41 rfl ?_
          refine gX_r49_1 hk hin9 (List.mem_cons_of_mem _ (List.mem_append_left _ (List.mem_of_getElem? (i := 8) rfl))) dX9_findPair_42 ?_
          refine g_aload_n hk dX9_findPair_45 rfl ?_
          refine gX_r49_2 hk hin9 (List.mem_cons_of_mem _ (List.mem_append_left _ (List.mem_of_getElem? (i := 9) rfl))) dX9_findPair_46 ?_
          refine g_iload_n hk dX9_findPair_49 rfl ?_
          refine g_bipush (v := 16) hk dX9_findPair_50 (by decide) ?_
          refine g_imul hk dX9_findPair_52 ?_
          refine g_topi (fun y9534 ey9534 => ?_)
          replace hF := FE.lt hF ey9534
          have hy9534 : y9534.toInt = x9388.toInt * 16 := i32_mul ey9534 rfl rfl (by omega) (by omega)
          refine g_callV (n := 2) hk (k297_X2_takeLeft l D zt q d I9391 A9391 y9534 hV9391) (SP.same _) (fun _ h => h) (gi_V (List.mem_cons_of_mem _ (List.mem_append_left _ (List.mem_of_getElem? (i := 10) rfl))) (List.mem_cons_of_mem _ (List.mem_append_left _ (List.mem_of_getElem? (i := 11) rfl))) (List.mem_cons_of_mem _ (List.mem_append_left _ (List.mem_of_getElem? (i := 12) rfl))) (List.mem_cons_of_mem _ (List.mem_append_left _ (List.mem_of_getElem? (i := 13) rfl))) (gi_sub (fun w h => (List.mem_cons_of_mem _ (List.mem_append_right _ (List.mem_append_right _ (List.mem_append_right _ (List.mem_append_left _ h)))))) zg_k297_X2_takeLeft)) rfl rfl rfl (by decide +kernel) ⟨Nat.le_of_ble_eq_true rfl, Nat.le_of_ble_eq_true rfl⟩ 38 rfl rfl rfl rfl (Nat.le_of_ble_eq_true rfl) ⟨Nat.le_of_ble_eq_true rfl, Nat.le_of_ble_eq_true rfl⟩ dX9_findPair_53 (fun v ty' w' hp hk' => ?_)
          obtain ⟨I9536, A9536, hI9536, hA9536, hV9536, hC, rfl, rfl⟩ := hp
          replace hF := FE.bdX hF hC
          show GW κ 3 0 0 (wX q d I9536 A9536) 56 [(2, .int x9388), (0, .ref (q 49)), (1, .int z1)] []
          refine g_aload_n hk dX9_findPair_56 rfl ?_
          refine g_iload_n hk dX9_findPair_57 rfl ?_
          refine g_iload_n hk dX9_findPair_58 rfl ?_
          refine g_callV (n := 2) hk (k303_X9_seekPairOf l D zt q d I9536 A9536 x9388 z1 hV9536 (by omega) (by omega) (by omega) (by omega)) (SP.same _) (fun _ h => h) (gi_V (List.mem_cons_of_mem _ (List.mem_append_left _ (List.mem_of_getElem? (i := 14) rfl))) (List.mem_cons_of_mem _ (List.mem_append_left _ (List.mem_of_getElem? (i := 15) rfl))) (List.mem_cons_of_mem _ (List.mem_append_left _ (List.mem_of_getElem? (i := 16) rfl))) (List.mem_cons_of_mem _ (List.mem_append_left _ (List.mem_of_getElem? (i := 6) rfl))) (gi_sub (fun w h => (List.mem_cons_of_mem _ (List.mem_append_right _ (List.mem_append_right _ (List.mem_append_right _ (List.mem_append_right _ (List.mem_append_left _ h))))))) zg_k303_X9_seekPairOf)) rfl rfl rfl (by decide +kernel) ⟨Nat.le_of_ble_eq_true rfl, Nat.le_of_ble_eq_true rfl⟩ 49 rfl rfl rfl rfl (Nat.le_of_ble_eq_true rfl) ⟨Nat.le_of_ble_eq_true rfl, Nat.le_of_ble_eq_true rfl⟩ dX9_findPair_59 (fun v ty' w' hp hk' => ?_)
          obtain ⟨I9538, A9538, hI9538, hA9538, hV9538, hC, rfl, rfl⟩ := hp
          replace hF := FE.bdX hF hC
          show GW κ 3 0 0 (wX q d I9538 A9538) 62 [(2, .int x9388), (0, .ref (q 49)), (1, .int z1)] []
          obtain ⟨y9539, ey9539⟩ : ∃ y : Int32, y = x9388 + Int32.ofInt 1 := ⟨_, rfl⟩
          replace hF := FE.lt hF ey9539
          have hy9539 : y9539.toInt = x9388.toInt + 1 := i32_add ey9539 rfl (by decide) (by omega) (by omega)
          refine g_iinc (v := y9539) (lv' := [(2, .int y9539), (0, .ref (q 49)), (1, .int z1)]) hk 0 dX9_findPair_62 rfl ey9539.symm (by decide) rfl ?_
          refine g_goto (tgt := 25) hk dX9_findPair_65 (by decide) ?_
          exact g_lv (List.forall_mem_cons.mpr ⟨List.mem_of_getElem? (i := 0) rfl, (List.forall_mem_cons.mpr ⟨List.mem_of_getElem? (i := 1) rfl, (List.forall_mem_cons.mpr ⟨List.mem_of_getElem? (i := 2) rfl, (fun _ h => absurd h List.not_mem_nil)⟩)⟩)⟩) (ih9529 y9539 I9538 A9538 (show Md [33, 34, 40, 41, 42] I9387 I9538 from Md.tr hI9391 (show Md [33, 34, 40, 41, 42] I9391 I9538 from (Md.tr (Md.tr Md.rf hI9536 rfl) hI9538 rfl)) rfl) (show Md [21, 22, 23] A9387 A9538 from Md.tr hA9391 (show Md [21, 22, 23] A9391 A9538 from (Md.tr (Md.tr Md.rf hA9536 rfl) hA9538 rfl)) rfl) hV9538 (by omega) (by omega) (by omega) (by omega) hF)
  have k9541 : (0 : Int32).toInt = 0 := rfl
  have n9540a : 161 - 0 < (FU : Int) := by have := FU_eq; omega
  have n9540b : 0 < FU := by have := FU_eq; omega
  exact lp9525 FU 0 I9387 A9387 Md.rf Md.rf hV9387 (by omega) (by omega) n9540a n9540b hF
noncomputable def fX11_pair (I : Nat → Int32) (A : Nat → Nat → Int32) (z1 : Int32) (z2 : Int32) : Int32 × (Nat → Int32) × (Nat → Nat → Int32) := if fX11_isStretch I A z1 = 0 then ((-1), I, A) else if z2.toInt < 0 then ((-1), I, A) else if z2.toInt ≤ 2 then f_bdX (fX9_findPair I A z1) fun _ I9543 A9543 => if z2.toInt ≠ 2 then if z2.toInt ≠ 0 then ((I9543 41), I9543, A9543) else ((I9543 40), I9543, A9543) else ((I9543 42), I9543, A9543) else ((-1), I, A)
def wo_k301_X11_pair : List Cond := [Cond.methodLink RX11 196 yX11_isStretch, Cond.static yX11_isStretch, Cond.initialized RX11, Cond.fieldLink RX11 81 "WarpDesk" "stretches" "LWarpDesk$Stretches;", Cond.methodLink RX11 332 yX9_findPair, Cond.instanceMethod yX9_findPair, Cond.selects RX9 yX9_findPair yX9_findPair, Cond.initialized RX9, Cond.fieldLink RX11 341 "WarpDesk$Stretches" "pairGreater" "I", Cond.fieldLink RX11 338 "WarpDesk$Stretches" "pairLesser" "I", Cond.fieldLink RX11 335 "WarpDesk$Stretches" "pairDistance" "I"]
def wz_k301_X11_pair : List Cond := .code yX11_pair cX11_pair 3 (some .int) :: (wo_k301_X11_pair ++ (wsX90 ++ (wsX110 ++ (wz_k212_X11_isStretch ++ (wz_k302_X9_findPair ++ ([] : List Cond))))))
theorem zg_k301_X11_pair : ∀ w ∈ wz_k301_X11_pair, goodWord w = true := zg_cons rfl (zg_app (by decide +kernel) (zg_app zgU_wsX90 (zg_app zgU_wsX110 (zg_app zg_k212_X11_isStretch (zg_app zg_k302_X9_findPair zg_nil)))))
theorem zi_k301_X11_pair : ∀ w ∈ wz_k301_X11_pair, w ∈ lw_tbl := zi_cons zw_1288 (zi_app (zi_cons zw_926 (zi_cons zw_927 (zi_cons zw_103 (zi_cons zw_496 (zi_cons zw_1289 (zi_cons zw_1290 (zi_cons zw_1291 (zi_cons zw_114 (zi_cons zw_457 (zi_cons zw_455 (zi_cons zw_459 zi_nil))))))))))) (zi_app inX9 (zi_app inX11 (zi_app zi_k212_X11_isStretch (zi_app zi_k302_X9_findPair zi_nil)))))
set_option maxHeartbeats 4000000 in
set_option maxRecDepth 100000 in
theorem k301_X11_pair (l : Launch) (D : va_G) (zt : Nat × Nat × Nat × (Nat → Nat) × (Nat → Nat)) (q : Nat → Nat) (d : Nat → ClassId) (I : Nat → Int32) (A : Nat → Nat → Int32) (z1 : Int32) (z2 : Int32) (hIv : IvX I A) : GM l D zt (tyX d) yX11_pair wz_k301_X11_pair ({ frames := 6, cells := 0, slots := 0, locals := 138 } : Room) [.ref (q 0), .int z1, .int z2] (wX q d I A) (fun v _ w' => ∃ (I' : Nat → Int32) (A' : Nat → Nat → Int32), Md [28, 30, 31, 32, 33, 34, 40, 41, 42] I I' ∧ Md [21, 22, 23, 30, 31] A A' ∧ IvX I' A' ∧ ∃ y0 : Int32, FE (fX11_pair I A z1 z2) (y0, I', A') ∧ v = some (.int y0) ∧ w' = wX q d I' A') 0 0 := by
  refine GM.of (cc := cX11_pair) (maxL := 3) (ret := (some .int)) (own := RX11) (lv := [(0, .ref (q 0)), (1, .int z1), (2, .int z2)]) (by decide) rfl rfl (Nat.le_of_ble_eq_true rfl) rfl (fun κ sz hk hR hN => ?_)
  have hin9 : ∀ w ∈ u_ws RX9 TX9 11, w ∈ wz_k301_X11_pair := fun w h => (List.mem_cons_of_mem _ (List.mem_append_right _ (List.mem_append_left _ h)))
  have hin11 : ∀ w ∈ u_ws RX11 TX11 10, w ∈ wz_k301_X11_pair := fun w h => (List.mem_cons_of_mem _ (List.mem_append_right _ (List.mem_append_right _ (List.mem_append_left _ h))))
  have hF : FE (fX11_pair I A z1 z2) (fX11_pair I A z1 z2) := FE.rf
  refine g_iload_n hk dX11_pair_0 rfl ?_
  refine g_callS (n := 1) hk (k212_X11_isStretch l D zt q d I A z1 hIv) (SP.same _) (fun _ h => h) (gi_S (List.mem_cons_of_mem _ (List.mem_append_left _ (List.mem_of_getElem? (i := 0) rfl))) (List.mem_cons_of_mem _ (List.mem_append_left _ (List.mem_of_getElem? (i := 1) rfl))) (List.mem_cons_of_mem _ (List.mem_append_left _ (List.mem_of_getElem? (i := 2) rfl))) (gi_sub (fun w h => (List.mem_cons_of_mem _ (List.mem_append_right _ (List.mem_append_right _ (List.mem_append_right _ (List.mem_append_left _ h)))))) zg_k212_X11_isStretch)) rfl rfl rfl (by decide +kernel) ⟨Nat.le_of_ble_eq_true rfl, Nat.le_of_ble_eq_true rfl⟩ rfl rfl (Nat.le_of_ble_eq_true rfl) ⟨Nat.le_of_ble_eq_true rfl, Nat.le_of_ble_eq_true rfl⟩ dX11_pair_1 (fun v ty' w' hp hk' => ?_)
  rcases hp with ⟨hC, rfl, rfl⟩ | ⟨c9378, c9379, c9380, c9381, hC, rfl, rfl⟩
  · skip
    replace hF := FE.pos hF hC
    show GW κ 3 0 0 (wX q d I A) 4 [(0, .ref (q 0)), (1, .int z1), (2, .int z2)] [.int 0]
    refine g_if_eq (tgt := 16) (a := 0) hk dX11_pair_4 (by decide) rfl (fun _ => ?_) (fun z9 => absurd (show (0 : Int) = (0 : Int) from by decide) z9)
    refine g_iconst (v := (-1)) hk dX11_pair_16 (by decide) ?_
    exact g_iret hk hR rfl ⟨I, A, (show Md [28, 30, 31, 32, 33, 34, 40, 41, 42] I I from Md.rf), (show Md [21, 22, 23, 30, 31] A A from Md.rf), hIv, (-1), hF, rfl, rfl⟩ dX11_pair_17
  · skip
    replace hF := FE.neg hF (fe_ne hC (by decide))
    show GW κ 3 0 0 (wX q d I A) 4 [(0, .ref (q 0)), (1, .int z1), (2, .int z2)] [.int 1]
    refine g_if_eq (tgt := 16) (a := 1) hk dX11_pair_4 (by decide) rfl (fun z9 => absurd z9 (show ¬ ((1 : Int) = (0 : Int)) from by decide)) (fun _ => ?_)
    refine g_iload_n hk dX11_pair_7 rfl ?_
    have b9383l := Int32.le_toInt z2
    have b9383h := Int32.toInt_lt z2
    refine g_if_lt (tgt := 16) (a := z2.toInt) hk dX11_pair_8 (by decide) rfl (fun c9384 => ?_) (fun c9384 => ?_)
    · skip
      replace hF := FE.pos hF c9384
      refine g_iconst (v := (-1)) hk dX11_pair_16 (by decide) ?_
      exact g_iret hk hR rfl ⟨I, A, (show Md [28, 30, 31, 32, 33, 34, 40, 41, 42] I I from Md.rf), (show Md [21, 22, 23, 30, 31] A A from Md.rf), hIv, (-1), hF, rfl, rfl⟩ dX11_pair_17
    · skip
      replace hF := FE.neg hF c9384
      refine g_iload_n hk dX11_pair_11 rfl ?_
      refine g_iconst (v := 2) hk dX11_pair_12 (by decide) ?_
      refine g_icmp_le (tgt := 18) (a := z2.toInt) (b := 2) hk dX11_pair_13 (by decide) rfl rfl (fun c9385 => ?_) (fun c9385 => ?_)
      · skip
        replace hF := FE.pos hF c9385
        refine g_aload_n hk dX11_pair_18 rfl ?_
        refine gX_r0_9 hk hin11 (List.mem_cons_of_mem _ (List.mem_append_left _ (List.mem_of_getElem? (i := 3) rfl))) dX11_pair_19 ?_
        refine g_iload_n hk dX11_pair_22 rfl ?_
        refine g_callV (n := 1) hk (k302_X9_findPair l D zt q d I A z1 hIv (by omega) (by omega)) (SP.same _) (fun _ h => h) (gi_V (List.mem_cons_of_mem _ (List.mem_append_left _ (List.mem_of_getElem? (i := 4) rfl))) (List.mem_cons_of_mem _ (List.mem_append_left _ (List.mem_of_getElem? (i := 5) rfl))) (List.mem_cons_of_mem _ (List.mem_append_left _ (List.mem_of_getElem? (i := 6) rfl))) (List.mem_cons_of_mem _ (List.mem_append_left _ (List.mem_of_getElem? (i := 7) rfl))) (gi_sub (fun w h => (List.mem_cons_of_mem _ (List.mem_append_right _ (List.mem_append_right _ (List.mem_append_right _ (List.mem_append_right _ (List.mem_append_left _ h))))))) zg_k302_X9_findPair)) rfl rfl rfl (by decide +kernel) ⟨Nat.le_of_ble_eq_true rfl, Nat.le_of_ble_eq_true rfl⟩ 49 rfl rfl rfl rfl (Nat.le_of_ble_eq_true rfl) ⟨Nat.le_of_ble_eq_true rfl, Nat.le_of_ble_eq_true rfl⟩ dX11_pair_23 (fun v ty' w' hp hk' => ?_)
        obtain ⟨I9543, A9543, hI9543, hA9543, hV9543, hC, rfl, rfl⟩ := hp
        replace hF := FE.bdX hF hC
        show GW κ 3 0 0 (wX q d I9543 A9543) 26 [(0, .ref (q 0)), (1, .int z1), (2, .int z2)] []
        refine g_iload_n hk dX11_pair_26 rfl ?_
        refine g_iconst (v := 2) hk dX11_pair_27 (by decide) ?_
        refine g_icmp_ne (tgt := 39) (a := z2.toInt) (b := 2) hk dX11_pair_28 (by decide) rfl rfl (fun c9544 => ?_) (fun c9544 => ?_)
        · skip
          replace hF := FE.pos hF c9544
          refine g_iload_n hk dX11_pair_39 rfl ?_
          refine g_if_ne (tgt := 53) (a := z2.toInt) hk dX11_pair_40 (by decide) rfl (fun c9545 => ?_) (fun c9545 => ?_)
          · skip
            replace hF := FE.pos hF c9545
            refine g_aload_n hk dX11_pair_53 rfl ?_
            refine gX_r0_9 hk hin11 (List.mem_cons_of_mem _ (List.mem_append_left _ (List.mem_of_getElem? (i := 3) rfl))) dX11_pair_54 ?_
            refine gX_i41 (v := (I9543 41)) hk hin9 (List.mem_cons_of_mem _ (List.mem_append_left _ (List.mem_of_getElem? (i := 8) rfl))) dX11_pair_57 rfl ?_
            have b9546l := Int32.le_toInt (I9543 41)
            have b9546h := Int32.toInt_lt (I9543 41)
            exact g_iret hk hR rfl ⟨I9543, A9543, (show Md [28, 30, 31, 32, 33, 34, 40, 41, 42] I I9543 from (Md.tr Md.rf hI9543 rfl)), (show Md [21, 22, 23, 30, 31] A A9543 from (Md.tr Md.rf hA9543 rfl)), hV9543, (I9543 41), hF, rfl, rfl⟩ dX11_pair_60
          · skip
            replace hF := FE.neg hF c9545
            refine g_aload_n hk dX11_pair_43 rfl ?_
            refine gX_r0_9 hk hin11 (List.mem_cons_of_mem _ (List.mem_append_left _ (List.mem_of_getElem? (i := 3) rfl))) dX11_pair_44 ?_
            refine gX_i40 (v := (I9543 40)) hk hin9 (List.mem_cons_of_mem _ (List.mem_append_left _ (List.mem_of_getElem? (i := 9) rfl))) dX11_pair_47 rfl ?_
            refine g_goto (tgt := 60) hk dX11_pair_50 (by decide) ?_
            have b9547l := Int32.le_toInt (I9543 40)
            have b9547h := Int32.toInt_lt (I9543 40)
            exact g_iret hk hR rfl ⟨I9543, A9543, (show Md [28, 30, 31, 32, 33, 34, 40, 41, 42] I I9543 from (Md.tr Md.rf hI9543 rfl)), (show Md [21, 22, 23, 30, 31] A A9543 from (Md.tr Md.rf hA9543 rfl)), hV9543, (I9543 40), hF, rfl, rfl⟩ dX11_pair_60
        · skip
          replace hF := FE.neg hF c9544
          refine g_aload_n hk dX11_pair_31 rfl ?_
          refine gX_r0_9 hk hin11 (List.mem_cons_of_mem _ (List.mem_append_left _ (List.mem_of_getElem? (i := 3) rfl))) dX11_pair_32 ?_
          refine gX_i42 (v := (I9543 42)) hk hin9 (List.mem_cons_of_mem _ (List.mem_append_left _ (List.mem_of_getElem? (i := 10) rfl))) dX11_pair_35 rfl ?_
          have b9548l := Int32.le_toInt (I9543 42)
          have b9548h := Int32.toInt_lt (I9543 42)
          exact g_iret hk hR rfl ⟨I9543, A9543, (show Md [28, 30, 31, 32, 33, 34, 40, 41, 42] I I9543 from (Md.tr Md.rf hI9543 rfl)), (show Md [21, 22, 23, 30, 31] A A9543 from (Md.tr Md.rf hA9543 rfl)), hV9543, (I9543 42), hF, rfl, rfl⟩ dX11_pair_38
      · skip
        replace hF := FE.neg hF c9385
        refine g_iconst (v := (-1)) hk dX11_pair_16 (by decide) ?_
        exact g_iret hk hR rfl ⟨I, A, (show Md [28, 30, 31, 32, 33, 34, 40, 41, 42] I I from Md.rf), (show Md [21, 22, 23, 30, 31] A A from Md.rf), hIv, (-1), hF, rfl, rfl⟩ dX11_pair_17
noncomputable def bX9_findOdd_19 (A9559 : Nat → Nat → Int32) (z1 : Int32) : (Int32 → (Nat → Int32) → (Nat → Nat → Int32) → (Int32 × (Nat → Int32) × (Nat → Nat → Int32))) → Int32 → (Nat → Int32) → (Nat → Nat → Int32) → (Int32 × (Nat → Int32) × (Nat → Nat → Int32)) := fun kk9621 x9560 I9563 A9563 => if 160 ≤ x9560.toInt then (0, I9563, A9563) else if (A9559 31 x9560.toNatClampNeg).toInt ≠ 0 then f_bdX (fX9_findNearest I9563 A9563 x9560 z1 (I9563 44)) fun _ I9627 A9627 => if (I9627 38).toInt < 0 then f_lt (x9560 + Int32.ofInt 1) fun y9630 => kk9621 y9630 I9627 A9627 else if (I9627 39).toInt ≤ (I9563 44).toInt then f_lt (x9560 + Int32.ofInt 1) fun y9634 => kk9621 y9634 I9627 A9627 else f_lt (x9560 + Int32.ofInt 1) fun y9635 => kk9621 y9635 (upd (upd I9627 43 x9560) 44 (I9627 39)) A9627 else f_lt (x9560 + Int32.ofInt 1) fun y9636 => kk9621 y9636 I9563 A9563
noncomputable def fX9_findOdd (I : Nat → Int32) (A : Nat → Nat → Int32) (z1 : Int32) : Int32 × (Nat → Int32) × (Nat → Nat → Int32) := f_bdX (fX9_bringAll (upd (upd I 43 (-2)) 44 (-2)) A z1) fun _ I9559 A9559 => itr_iIA dfX (bX9_findOdd_19 A9559 z1) FU 0 I9559 A9559
def wo_k305_X9_findOdd : List Cond := [Cond.fieldLink RX9 98 "WarpDesk$Stretches" "oddWindow" "I", Cond.fieldLink RX9 101 "WarpDesk$Stretches" "oddDistance" "I", Cond.methodLink RX9 50 yX9_bringAll, Cond.instanceMethod yX9_bringAll, Cond.selects RX9 yX9_bringAll yX9_bringAll, Cond.initialized RX9, Cond.fieldLink RX9 15 "WarpDesk$Stretches" "isThere" "[Z", Cond.methodLink RX9 54 yX9_findNearest, Cond.instanceMethod yX9_findNearest, Cond.selects RX9 yX9_findNearest yX9_findNearest, Cond.fieldLink RX9 58 "WarpDesk$Stretches" "nearest" "I", Cond.fieldLink RX9 62 "WarpDesk$Stretches" "nearestDistance" "I"]
def wz_k305_X9_findOdd : List Cond := .code yX9_findOdd cX9_findOdd 3 none :: (wo_k305_X9_findOdd ++ (wsX90 ++ (wz_k293_X9_bringAll ++ (wz_k296_X9_findNearest ++ ([] : List Cond)))))
theorem zg_k305_X9_findOdd : ∀ w ∈ wz_k305_X9_findOdd, goodWord w = true := zg_cons rfl (zg_app (by decide +kernel) (zg_app zgU_wsX90 (zg_app zg_k293_X9_bringAll (zg_app zg_k296_X9_findNearest zg_nil))))
theorem zi_k305_X9_findOdd : ∀ w ∈ wz_k305_X9_findOdd, w ∈ lw_tbl := zi_cons zw_1304 (zi_app (zi_cons zw_460 (zi_cons zw_462 (zi_cons zw_1255 (zi_cons zw_1257 (zi_cons zw_39 (zi_cons zw_114 (zi_cons zw_449 (zi_cons zw_1269 (zi_cons zw_1271 (zi_cons zw_41 (zi_cons zw_450 (zi_cons zw_452 zi_nil)))))))))))) (zi_app inX9 (zi_app zi_k293_X9_bringAll (zi_app zi_k296_X9_findNearest zi_nil))))
set_option maxHeartbeats 4000000 in
set_option maxRecDepth 100000 in
theorem k305_X9_findOdd (l : Launch) (D : va_G) (zt : Nat × Nat × Nat × (Nat → Nat) × (Nat → Nat)) (q : Nat → Nat) (d : Nat → ClassId) (I : Nat → Int32) (A : Nat → Nat → Int32) (z1 : Int32) (hIv : IvX I A) : GM l D zt (tyX d) yX9_findOdd wz_k305_X9_findOdd ({ frames := 5, cells := 0, slots := 0, locals := 118 } : Room) [.ref (q 49), .int z1] (wX q d I A) (fun v _ w' => ∃ (I' : Nat → Int32) (A' : Nat → Nat → Int32), Md [28, 30, 31, 32, 33, 34, 38, 39, 43, 44] I I' ∧ Md [21, 22, 23, 30, 31] A A' ∧ IvX I' A' ∧ FE (fX9_findOdd I A z1) (0, I', A') ∧ v = none ∧ w' = wX q d I' A') 0 0 := by
  refine GM.of (cc := cX9_findOdd) (maxL := 3) (ret := none) (own := RX9) (lv := [(0, .ref (q 49)), (1, .int z1)]) (by decide) rfl rfl (Nat.le_of_ble_eq_true rfl) rfl (fun κ sz hk hR hN => ?_)
  have hin9 : ∀ w ∈ u_ws RX9 TX9 11, w ∈ wz_k305_X9_findOdd := fun w h => (List.mem_cons_of_mem _ (List.mem_append_right _ (List.mem_append_left _ h)))
  have hF : FE (fX9_findOdd I A z1) (fX9_findOdd I A z1) := FE.rf
  refine g_aload_n hk dX9_findOdd_0 rfl ?_
  refine g_bipush (v := (-2)) hk dX9_findOdd_1 (by decide) ?_
  refine pX_i43 hk hin9 (List.mem_cons_of_mem _ (List.mem_append_left _ (List.mem_of_getElem? (i := 0) rfl))) dX9_findOdd_3 ?_
  refine g_aload_n hk dX9_findOdd_6 rfl ?_
  refine g_bipush (v := (-2)) hk dX9_findOdd_7 (by decide) ?_
  refine pX_i44 hk hin9 (List.mem_cons_of_mem _ (List.mem_append_left _ (List.mem_of_getElem? (i := 1) rfl))) dX9_findOdd_9 ?_
  refine g_aload_n hk dX9_findOdd_12 rfl ?_
  refine g_iload_n hk dX9_findOdd_13 rfl ?_
  refine g_callV (n := 1) hk (k293_X9_bringAll l D zt q d (upd (upd I 43 (-2)) 44 (-2)) A z1 ⟨(IvX_f0 (I := I) (A := A) hIv), (IvX_f18 (I := I) (A := A) hIv), (IvX_f30 (I := I) (A := A) hIv), (IvX_f31 (I := I) (A := A) hIv), (IvX_a4 (I := I) (A := A) hIv), (IvX_a9 (I := I) (A := A) hIv), trivial⟩) (SP.same _) (fun _ h => h) (gi_V (List.mem_cons_of_mem _ (List.mem_append_left _ (List.mem_of_getElem? (i := 2) rfl))) (List.mem_cons_of_mem _ (List.mem_append_left _ (List.mem_of_getElem? (i := 3) rfl))) (List.mem_cons_of_mem _ (List.mem_append_left _ (List.mem_of_getElem? (i := 4) rfl))) (List.mem_cons_of_mem _ (List.mem_append_left _ (List.mem_of_getElem? (i := 5) rfl))) (gi_sub (fun w h => (List.mem_cons_of_mem _ (List.mem_append_right _ (List.mem_append_right _ (List.mem_append_left _ h))))) zg_k293_X9_bringAll)) rfl rfl rfl (by decide +kernel) ⟨Nat.le_of_ble_eq_true rfl, Nat.le_of_ble_eq_true rfl⟩ 49 rfl rfl rfl rfl (Nat.le_of_ble_eq_true rfl) ⟨Nat.le_of_ble_eq_true rfl, Nat.le_of_ble_eq_true rfl⟩ dX9_findOdd_14 (fun v ty' w' hp hk' => ?_)
  obtain ⟨I9559, A9559, hI9559, hA9559, hV9559, hC, rfl, rfl⟩ := hp
  replace hF := FE.bdX hF hC
  show GW κ 3 0 0 (wX q d I9559 A9559) 17 [(0, .ref (q 49)), (1, .int z1)] []
  refine g_iconst (v := 0) hk dX9_findOdd_17 (by decide) ?_
  refine g_istore_n (lv' := [(2, .int 0), (0, .ref (q 49)), (1, .int z1)]) hk dX9_findOdd_18 (by decide) rfl ?_
  have lp9618 : ∀ (n9619 : Nat) (x9560 : Int32) (I9563 : Nat → Int32) (A9563 : Nat → Nat → Int32), (Md [33, 34, 38, 39, 43, 44] I9559 I9563) → (Md [21, 22, 23] A9559 A9563) → (IvX I9563 A9563) → (0 ≤ x9560.toInt) → (x9560.toInt ≤ 160) → (161 - x9560.toInt < (n9619 : Int)) → (0 < n9619) → (FE (fX9_findOdd I A z1) (itr_iIA dfX (bX9_findOdd_19 A9559 z1) n9619 x9560 I9563 A9563)) → GW κ 3 0 0 (wX q d I9563 A9563) 19 [(2, .int x9560), (0, .ref (q 49)), (1, .int z1)] [] := by
    intro n9619
    induction n9619 with
    | zero =>
      intro x9560 I9563 A9563 hI9563 hA9563 hV9563 h9616 h9617 m9620 m9620z hF
      exact absurd m9620z (Nat.lt_irrefl 0)
    | succ n9619 ih9622 =>
      intro x9560 I9563 A9563 hI9563 hA9563 hV9563 h9616 h9617 m9620 m9620z hF
      replace hF := FE.itr_iIA hF
      refine g_iload_n hk dX9_findOdd_19 rfl ?_
      refine g_sipush (v := 160) hk dX9_findOdd_20 (by decide) ?_
      refine g_icmp_ge (tgt := 85) (a := x9560.toInt) (b := 160) hk dX9_findOdd_23 (by decide) rfl rfl (fun c9623 => ?_) (fun c9623 => ?_)
      · skip
        replace hF := FE.pos hF c9623
        exact g_vret hk hR ⟨I9563, A9563, (show Md [28, 30, 31, 32, 33, 34, 38, 39, 43, 44] I I9563 from (Md.tr (Md.tr (Md.up (Md.up Md.rf rfl) rfl) hI9559 rfl) hI9563 rfl)), (show Md [21, 22, 23, 30, 31] A A9563 from (Md.tr (Md.tr Md.rf hA9559 rfl) hA9563 rfl)), hV9563, hF, rfl, rfl⟩ dX9_findOdd_85
      · skip
        replace hF := FE.neg hF c9623
        refine g_aload_n hk dX9_findOdd_26 rfl ?_
        refine gX_r49_3 hk hin9 (List.mem_cons_of_mem _ (List.mem_append_left _ (List.mem_of_getElem? (i := 6) rfl))) dX9_findOdd_27 ?_
        refine g_iload_n hk dX9_findOdd_30 rfl ?_
        refine lX_31 (v := (A9559 31 x9560.toNatClampNeg)) hk (vp_in_iff.mpr ⟨by omega, by omega⟩) (congrFun (hA9563 31 rfl) _) dX9_findOdd_31 ?_
        have b9624l := Int32.le_toInt (A9559 31 x9560.toNatClampNeg)
        have b9624h := Int32.toInt_lt (A9559 31 x9560.toNatClampNeg)
        refine g_if_ne (tgt := 38) (a := (A9559 31 x9560.toNatClampNeg).toInt) hk dX9_findOdd_32 (by decide) rfl (fun c9625 => ?_) (fun c9625 => ?_)
        · skip
          replace hF := FE.pos hF c9625
          refine g_aload_n hk dX9_findOdd_38 rfl ?_
          refine g_iload_n hk dX9_findOdd_39 rfl ?_
          refine g_iload_n hk dX9_findOdd_40 rfl ?_
          refine g_aload_n hk dX9_findOdd_41 rfl ?_
          refine gX_i44 (v := (I9563 44)) hk hin9 (List.mem_cons_of_mem _ (List.mem_append_left _ (List.mem_of_getElem? (i := 1) rfl))) dX9_findOdd_42 rfl ?_
          refine g_callV (n := 3) hk (k296_X9_findNearest l D zt q d I9563 A9563 x9560 z1 (I9563 44) hV9563) (SP.same _) (fun _ h => h) (gi_V (List.mem_cons_of_mem _ (List.mem_append_left _ (List.mem_of_getElem? (i := 7) rfl))) (List.mem_cons_of_mem _ (List.mem_append_left _ (List.mem_of_getElem? (i := 8) rfl))) (List.mem_cons_of_mem _ (List.mem_append_left _ (List.mem_of_getElem? (i := 9) rfl))) (List.mem_cons_of_mem _ (List.mem_append_left _ (List.mem_of_getElem? (i := 5) rfl))) (gi_sub (fun w h => (List.mem_cons_of_mem _ (List.mem_append_right _ (List.mem_append_right _ (List.mem_append_right _ (List.mem_append_left _ h)))))) zg_k296_X9_findNearest)) rfl rfl rfl (by decide +kernel) ⟨Nat.le_of_ble_eq_true rfl, Nat.le_of_ble_eq_true rfl⟩ 49 rfl rfl rfl rfl (Nat.le_of_ble_eq_true rfl) ⟨Nat.le_of_ble_eq_true rfl, Nat.le_of_ble_eq_true rfl⟩ dX9_findOdd_45 (fun v ty' w' hp hk' => ?_)
          obtain ⟨I9627, A9627, hI9627, hA9627, hV9627, hC, rfl, rfl⟩ := hp
          replace hF := FE.bdX hF hC
          show GW κ 3 0 0 (wX q d I9627 A9627) 48 [(2, .int x9560), (0, .ref (q 49)), (1, .int z1)] []
          refine g_aload_n hk dX9_findOdd_48 rfl ?_
          refine gX_i38 (v := (I9627 38)) hk hin9 (List.mem_cons_of_mem _ (List.mem_append_left _ (List.mem_of_getElem? (i := 10) rfl))) dX9_findOdd_49 rfl ?_
          have b9628l := Int32.le_toInt (I9627 38)
          have b9628h := Int32.toInt_lt (I9627 38)
          refine g_if_lt (tgt := 79) (a := (I9627 38).toInt) hk dX9_findOdd_52 (by decide) rfl (fun c9629 => ?_) (fun c9629 => ?_)
          · skip
            replace hF := FE.pos hF c9629
            obtain ⟨y9630, ey9630⟩ : ∃ y : Int32, y = x9560 + Int32.ofInt 1 := ⟨_, rfl⟩
            replace hF := FE.lt hF ey9630
            have hy9630 : y9630.toInt = x9560.toInt + 1 := i32_add ey9630 rfl (by decide) (by omega) (by omega)
            refine g_iinc (v := y9630) (lv' := [(2, .int y9630), (0, .ref (q 49)), (1, .int z1)]) hk 0 dX9_findOdd_79 rfl ey9630.symm (by decide) rfl ?_
            refine g_goto (tgt := 19) hk dX9_findOdd_82 (by decide) ?_
            exact g_lv (List.forall_mem_cons.mpr ⟨List.mem_of_getElem? (i := 0) rfl, (List.forall_mem_cons.mpr ⟨List.mem_of_getElem? (i := 1) rfl, (List.forall_mem_cons.mpr ⟨List.mem_of_getElem? (i := 2) rfl, (fun _ h => absurd h List.not_mem_nil)⟩)⟩)⟩) (ih9622 y9630 I9627 A9627 (show Md [33, 34, 38, 39, 43, 44] I9559 I9627 from Md.tr hI9563 (show Md [33, 34, 38, 39, 43, 44] I9563 I9627 from (Md.tr Md.rf hI9627 rfl)) rfl) (show Md [21, 22, 23] A9559 A9627 from Md.tr hA9563 (show Md [21, 22, 23] A9563 A9627 from (Md.tr Md.rf hA9627 rfl)) rfl) hV9627 (by omega) (by omega) (by omega) (by omega) hF)
          · skip
            replace hF := FE.neg hF c9629
            refine g_aload_n hk dX9_findOdd_55 rfl ?_
            refine gX_i39 (v := (I9627 39)) hk hin9 (List.mem_cons_of_mem _ (List.mem_append_left _ (List.mem_of_getElem? (i := 11) rfl))) dX9_findOdd_56 rfl ?_
            refine g_aload_n hk dX9_findOdd_59 rfl ?_
            refine gX_i44 (v := (I9563 44)) hk hin9 (List.mem_cons_of_mem _ (List.mem_append_left _ (List.mem_of_getElem? (i := 1) rfl))) dX9_findOdd_60 (hI9627 44 rfl) ?_
            have b9631l := Int32.le_toInt (I9627 39)
            have b9631h := Int32.toInt_lt (I9627 39)
            have b9632l := Int32.le_toInt (I9563 44)
            have b9632h := Int32.toInt_lt (I9563 44)
            refine g_icmp_le (tgt := 79) (a := (I9627 39).toInt) (b := (I9563 44).toInt) hk dX9_findOdd_63 (by decide) rfl rfl (fun c9633 => ?_) (fun c9633 => ?_)
            · skip
              replace hF := FE.pos hF c9633
              obtain ⟨y9634, ey9634⟩ : ∃ y : Int32, y = x9560 + Int32.ofInt 1 := ⟨_, rfl⟩
              replace hF := FE.lt hF ey9634
              have hy9634 : y9634.toInt = x9560.toInt + 1 := i32_add ey9634 rfl (by decide) (by omega) (by omega)
              refine g_iinc (v := y9634) (lv' := [(2, .int y9634), (0, .ref (q 49)), (1, .int z1)]) hk 0 dX9_findOdd_79 rfl ey9634.symm (by decide) rfl ?_
              refine g_goto (tgt := 19) hk dX9_findOdd_82 (by decide) ?_
              exact g_lv (List.forall_mem_cons.mpr ⟨List.mem_of_getElem? (i := 0) rfl, (List.forall_mem_cons.mpr ⟨List.mem_of_getElem? (i := 1) rfl, (List.forall_mem_cons.mpr ⟨List.mem_of_getElem? (i := 2) rfl, (fun _ h => absurd h List.not_mem_nil)⟩)⟩)⟩) (ih9622 y9634 I9627 A9627 (show Md [33, 34, 38, 39, 43, 44] I9559 I9627 from Md.tr hI9563 (show Md [33, 34, 38, 39, 43, 44] I9563 I9627 from (Md.tr Md.rf hI9627 rfl)) rfl) (show Md [21, 22, 23] A9559 A9627 from Md.tr hA9563 (show Md [21, 22, 23] A9563 A9627 from (Md.tr Md.rf hA9627 rfl)) rfl) hV9627 (by omega) (by omega) (by omega) (by omega) hF)
            · skip
              replace hF := FE.neg hF c9633
              refine g_aload_n hk dX9_findOdd_66 rfl ?_
              refine g_iload_n hk dX9_findOdd_67 rfl ?_
              refine pX_i43 hk hin9 (List.mem_cons_of_mem _ (List.mem_append_left _ (List.mem_of_getElem? (i := 0) rfl))) dX9_findOdd_68 ?_
              refine g_aload_n hk dX9_findOdd_71 rfl ?_
              refine g_aload_n hk dX9_findOdd_72 rfl ?_
              refine gX_i39 (v := (I9627 39)) hk hin9 (List.mem_cons_of_mem _ (List.mem_append_left _ (List.mem_of_getElem? (i := 11) rfl))) dX9_findOdd_73 rfl ?_
              refine pX_i44 hk hin9 (List.mem_cons_of_mem _ (List.mem_append_left _ (List.mem_of_getElem? (i := 1) rfl))) dX9_findOdd_76 ?_
              obtain ⟨y9635, ey9635⟩ : ∃ y : Int32, y = x9560 + Int32.ofInt 1 := ⟨_, rfl⟩
              replace hF := FE.lt hF ey9635
              have hy9635 : y9635.toInt = x9560.toInt + 1 := i32_add ey9635 rfl (by decide) (by omega) (by omega)
              refine g_iinc (v := y9635) (lv' := [(2, .int y9635), (0, .ref (q 49)), (1, .int z1)]) hk 0 dX9_findOdd_79 rfl ey9635.symm (by decide) rfl ?_
              refine g_goto (tgt := 19) hk dX9_findOdd_82 (by decide) ?_
              exact g_lv (List.forall_mem_cons.mpr ⟨List.mem_of_getElem? (i := 0) rfl, (List.forall_mem_cons.mpr ⟨List.mem_of_getElem? (i := 1) rfl, (List.forall_mem_cons.mpr ⟨List.mem_of_getElem? (i := 2) rfl, (fun _ h => absurd h List.not_mem_nil)⟩)⟩)⟩) (ih9622 y9635 (upd (upd I9627 43 x9560) 44 (I9627 39)) A9627 (show Md [33, 34, 38, 39, 43, 44] I9559 (upd (upd I9627 43 x9560) 44 (I9627 39)) from Md.tr hI9563 (show Md [33, 34, 38, 39, 43, 44] I9563 (upd (upd I9627 43 x9560) 44 (I9627 39)) from (Md.up (Md.up (Md.tr Md.rf hI9627 rfl) rfl) rfl)) rfl) (show Md [21, 22, 23] A9559 A9627 from Md.tr hA9563 (show Md [21, 22, 23] A9563 A9627 from (Md.tr Md.rf hA9627 rfl)) rfl) ⟨(IvX_f0 (I := I9627) (A := A9627) hV9627), (IvX_f18 (I := I9627) (A := A9627) hV9627), (IvX_f30 (I := I9627) (A := A9627) hV9627), (IvX_f31 (I := I9627) (A := A9627) hV9627), (IvX_a4 (I := I9627) (A := A9627) hV9627), (IvX_a9 (I := I9627) (A := A9627) hV9627), trivial⟩ (by omega) (by omega) (by omega) (by omega) hF)
        · skip
          replace hF := FE.neg hF c9625
          refine g_goto (tgt := 79) hk dX9_findOdd_35 (by decide) ?_
          obtain ⟨y9636, ey9636⟩ : ∃ y : Int32, y = x9560 + Int32.ofInt 1 := ⟨_, rfl⟩
          replace hF := FE.lt hF ey9636
          have hy9636 : y9636.toInt = x9560.toInt + 1 := i32_add ey9636 rfl (by decide) (by omega) (by omega)
          refine g_iinc (v := y9636) (lv' := [(2, .int y9636), (0, .ref (q 49)), (1, .int z1)]) hk 0 dX9_findOdd_79 rfl ey9636.symm (by decide) rfl ?_
          refine g_goto (tgt := 19) hk dX9_findOdd_82 (by decide) ?_
          exact g_lv (List.forall_mem_cons.mpr ⟨List.mem_of_getElem? (i := 0) rfl, (List.forall_mem_cons.mpr ⟨List.mem_of_getElem? (i := 1) rfl, (List.forall_mem_cons.mpr ⟨List.mem_of_getElem? (i := 2) rfl, (fun _ h => absurd h List.not_mem_nil)⟩)⟩)⟩) (ih9622 y9636 I9563 A9563 (show Md [33, 34, 38, 39, 43, 44] I9559 I9563 from Md.tr hI9563 (show Md [33, 34, 38, 39, 43, 44] I9563 I9563 from Md.rf) rfl) (show Md [21, 22, 23] A9559 A9563 from Md.tr hA9563 (show Md [21, 22, 23] A9563 A9563 from Md.rf) rfl) hV9563 (by omega) (by omega) (by omega) (by omega) hF)
  have k9638 : (0 : Int32).toInt = 0 := rfl
  have n9637a : 161 - 0 < (FU : Int) := by have := FU_eq; omega
  have n9637b : 0 < FU := by have := FU_eq; omega
  exact lp9618 FU 0 I9559 A9559 Md.rf Md.rf hV9559 (by omega) (by omega) n9637a n9637b hF
noncomputable def fX11_odd (I : Nat → Int32) (A : Nat → Nat → Int32) (z1 : Int32) (z2 : Int32) : Int32 × (Nat → Int32) × (Nat → Nat → Int32) := if fX11_isStretch I A z1 = 0 then ((-1), I, A) else if z2.toInt < 0 then ((-1), I, A) else if z2.toInt ≤ 1 then f_bdX (fX9_findOdd I A z1) fun _ I9640 A9640 => if z2.toInt ≠ 0 then ((I9640 44), I9640, A9640) else ((I9640 43), I9640, A9640) else ((-1), I, A)
def wo_k304_X11_odd : List Cond := [Cond.methodLink RX11 196 yX11_isStretch, Cond.static yX11_isStretch, Cond.initialized RX11, Cond.fieldLink RX11 81 "WarpDesk" "stretches" "LWarpDesk$Stretches;", Cond.methodLink RX11 344 yX9_findOdd, Cond.instanceMethod yX9_findOdd, Cond.selects RX9 yX9_findOdd yX9_findOdd, Cond.initialized RX9, Cond.fieldLink RX11 350 "WarpDesk$Stretches" "oddDistance" "I", Cond.fieldLink RX11 347 "WarpDesk$Stretches" "oddWindow" "I"]
def wz_k304_X11_odd : List Cond := .code yX11_odd cX11_odd 3 (some .int) :: (wo_k304_X11_odd ++ (wsX90 ++ (wsX110 ++ (wz_k212_X11_isStretch ++ (wz_k305_X9_findOdd ++ ([] : List Cond))))))
theorem zg_k304_X11_odd : ∀ w ∈ wz_k304_X11_odd, goodWord w = true := zg_cons rfl (zg_app (by decide +kernel) (zg_app zgU_wsX90 (zg_app zgU_wsX110 (zg_app zg_k212_X11_isStretch (zg_app zg_k305_X9_findOdd zg_nil)))))
theorem zi_k304_X11_odd : ∀ w ∈ wz_k304_X11_odd, w ∈ lw_tbl := zi_cons zw_1300 (zi_app (zi_cons zw_926 (zi_cons zw_927 (zi_cons zw_103 (zi_cons zw_496 (zi_cons zw_1301 (zi_cons zw_1302 (zi_cons zw_1303 (zi_cons zw_114 (zi_cons zw_463 (zi_cons zw_461 zi_nil)))))))))) (zi_app inX9 (zi_app inX11 (zi_app zi_k212_X11_isStretch (zi_app zi_k305_X9_findOdd zi_nil)))))
set_option maxHeartbeats 4000000 in
set_option maxRecDepth 100000 in
theorem k304_X11_odd (l : Launch) (D : va_G) (zt : Nat × Nat × Nat × (Nat → Nat) × (Nat → Nat)) (q : Nat → Nat) (d : Nat → ClassId) (I : Nat → Int32) (A : Nat → Nat → Int32) (z1 : Int32) (z2 : Int32) (hIv : IvX I A) : GM l D zt (tyX d) yX11_odd wz_k304_X11_odd ({ frames := 6, cells := 0, slots := 0, locals := 140 } : Room) [.ref (q 0), .int z1, .int z2] (wX q d I A) (fun v _ w' => ∃ (I' : Nat → Int32) (A' : Nat → Nat → Int32), Md [28, 30, 31, 32, 33, 34, 38, 39, 43, 44] I I' ∧ Md [21, 22, 23, 30, 31] A A' ∧ IvX I' A' ∧ ∃ y0 : Int32, FE (fX11_odd I A z1 z2) (y0, I', A') ∧ v = some (.int y0) ∧ w' = wX q d I' A') 0 0 := by
  refine GM.of (cc := cX11_odd) (maxL := 3) (ret := (some .int)) (own := RX11) (lv := [(0, .ref (q 0)), (1, .int z1), (2, .int z2)]) (by decide) rfl rfl (Nat.le_of_ble_eq_true rfl) rfl (fun κ sz hk hR hN => ?_)
  have hin9 : ∀ w ∈ u_ws RX9 TX9 11, w ∈ wz_k304_X11_odd := fun w h => (List.mem_cons_of_mem _ (List.mem_append_right _ (List.mem_append_left _ h)))
  have hin11 : ∀ w ∈ u_ws RX11 TX11 10, w ∈ wz_k304_X11_odd := fun w h => (List.mem_cons_of_mem _ (List.mem_append_right _ (List.mem_append_right _ (List.mem_append_left _ h))))
  have hF : FE (fX11_odd I A z1 z2) (fX11_odd I A z1 z2) := FE.rf
  refine g_iload_n hk dX11_odd_0 rfl ?_
  refine g_callS (n := 1) hk (k212_X11_isStretch l D zt q d I A z1 hIv) (SP.same _) (fun _ h => h) (gi_S (List.mem_cons_of_mem _ (List.mem_append_left _ (List.mem_of_getElem? (i := 0) rfl))) (List.mem_cons_of_mem _ (List.mem_append_left _ (List.mem_of_getElem? (i := 1) rfl))) (List.mem_cons_of_mem _ (List.mem_append_left _ (List.mem_of_getElem? (i := 2) rfl))) (gi_sub (fun w h => (List.mem_cons_of_mem _ (List.mem_append_right _ (List.mem_append_right _ (List.mem_append_right _ (List.mem_append_left _ h)))))) zg_k212_X11_isStretch)) rfl rfl rfl (by decide +kernel) ⟨Nat.le_of_ble_eq_true rfl, Nat.le_of_ble_eq_true rfl⟩ rfl rfl (Nat.le_of_ble_eq_true rfl) ⟨Nat.le_of_ble_eq_true rfl, Nat.le_of_ble_eq_true rfl⟩ dX11_odd_1 (fun v ty' w' hp hk' => ?_)
  rcases hp with ⟨hC, rfl, rfl⟩ | ⟨c9550, c9551, c9552, c9553, hC, rfl, rfl⟩
  · skip
    replace hF := FE.pos hF hC
    show GW κ 3 0 0 (wX q d I A) 4 [(0, .ref (q 0)), (1, .int z1), (2, .int z2)] [.int 0]
    refine g_if_eq (tgt := 16) (a := 0) hk dX11_odd_4 (by decide) rfl (fun _ => ?_) (fun z9 => absurd (show (0 : Int) = (0 : Int) from by decide) z9)
    refine g_iconst (v := (-1)) hk dX11_odd_16 (by decide) ?_
    exact g_iret hk hR rfl ⟨I, A, (show Md [28, 30, 31, 32, 33, 34, 38, 39, 43, 44] I I from Md.rf), (show Md [21, 22, 23, 30, 31] A A from Md.rf), hIv, (-1), hF, rfl, rfl⟩ dX11_odd_17
  · skip
    replace hF := FE.neg hF (fe_ne hC (by decide))
    show GW κ 3 0 0 (wX q d I A) 4 [(0, .ref (q 0)), (1, .int z1), (2, .int z2)] [.int 1]
    refine g_if_eq (tgt := 16) (a := 1) hk dX11_odd_4 (by decide) rfl (fun z9 => absurd z9 (show ¬ ((1 : Int) = (0 : Int)) from by decide)) (fun _ => ?_)
    refine g_iload_n hk dX11_odd_7 rfl ?_
    have b9555l := Int32.le_toInt z2
    have b9555h := Int32.toInt_lt z2
    refine g_if_lt (tgt := 16) (a := z2.toInt) hk dX11_odd_8 (by decide) rfl (fun c9556 => ?_) (fun c9556 => ?_)
    · skip
      replace hF := FE.pos hF c9556
      refine g_iconst (v := (-1)) hk dX11_odd_16 (by decide) ?_
      exact g_iret hk hR rfl ⟨I, A, (show Md [28, 30, 31, 32, 33, 34, 38, 39, 43, 44] I I from Md.rf), (show Md [21, 22, 23, 30, 31] A A from Md.rf), hIv, (-1), hF, rfl, rfl⟩ dX11_odd_17
    · skip
      replace hF := FE.neg hF c9556
      refine g_iload_n hk dX11_odd_11 rfl ?_
      refine g_iconst (v := 1) hk dX11_odd_12 (by decide) ?_
      refine g_icmp_le (tgt := 18) (a := z2.toInt) (b := 1) hk dX11_odd_13 (by decide) rfl rfl (fun c9557 => ?_) (fun c9557 => ?_)
      · skip
        replace hF := FE.pos hF c9557
        refine g_aload_n hk dX11_odd_18 rfl ?_
        refine gX_r0_9 hk hin11 (List.mem_cons_of_mem _ (List.mem_append_left _ (List.mem_of_getElem? (i := 3) rfl))) dX11_odd_19 ?_
        refine g_iload_n hk dX11_odd_22 rfl ?_
        refine g_callV (n := 1) hk (k305_X9_findOdd l D zt q d I A z1 hIv) (SP.same _) (fun _ h => h) (gi_V (List.mem_cons_of_mem _ (List.mem_append_left _ (List.mem_of_getElem? (i := 4) rfl))) (List.mem_cons_of_mem _ (List.mem_append_left _ (List.mem_of_getElem? (i := 5) rfl))) (List.mem_cons_of_mem _ (List.mem_append_left _ (List.mem_of_getElem? (i := 6) rfl))) (List.mem_cons_of_mem _ (List.mem_append_left _ (List.mem_of_getElem? (i := 7) rfl))) (gi_sub (fun w h => (List.mem_cons_of_mem _ (List.mem_append_right _ (List.mem_append_right _ (List.mem_append_right _ (List.mem_append_right _ (List.mem_append_left _ h))))))) zg_k305_X9_findOdd)) rfl rfl rfl (by decide +kernel) ⟨Nat.le_of_ble_eq_true rfl, Nat.le_of_ble_eq_true rfl⟩ 49 rfl rfl rfl rfl (Nat.le_of_ble_eq_true rfl) ⟨Nat.le_of_ble_eq_true rfl, Nat.le_of_ble_eq_true rfl⟩ dX11_odd_23 (fun v ty' w' hp hk' => ?_)
        obtain ⟨I9640, A9640, hI9640, hA9640, hV9640, hC, rfl, rfl⟩ := hp
        replace hF := FE.bdX hF hC
        show GW κ 3 0 0 (wX q d I9640 A9640) 26 [(0, .ref (q 0)), (1, .int z1), (2, .int z2)] []
        refine g_iload_n hk dX11_odd_26 rfl ?_
        refine g_if_ne (tgt := 40) (a := z2.toInt) hk dX11_odd_27 (by decide) rfl (fun c9641 => ?_) (fun c9641 => ?_)
        · skip
          replace hF := FE.pos hF c9641
          refine g_aload_n hk dX11_odd_40 rfl ?_
          refine gX_r0_9 hk hin11 (List.mem_cons_of_mem _ (List.mem_append_left _ (List.mem_of_getElem? (i := 3) rfl))) dX11_odd_41 ?_
          refine gX_i44 (v := (I9640 44)) hk hin9 (List.mem_cons_of_mem _ (List.mem_append_left _ (List.mem_of_getElem? (i := 8) rfl))) dX11_odd_44 rfl ?_
          have b9642l := Int32.le_toInt (I9640 44)
          have b9642h := Int32.toInt_lt (I9640 44)
          exact g_iret hk hR rfl ⟨I9640, A9640, (show Md [28, 30, 31, 32, 33, 34, 38, 39, 43, 44] I I9640 from (Md.tr Md.rf hI9640 rfl)), (show Md [21, 22, 23, 30, 31] A A9640 from (Md.tr Md.rf hA9640 rfl)), hV9640, (I9640 44), hF, rfl, rfl⟩ dX11_odd_47
        · skip
          replace hF := FE.neg hF c9641
          refine g_aload_n hk dX11_odd_30 rfl ?_
          refine gX_r0_9 hk hin11 (List.mem_cons_of_mem _ (List.mem_append_left _ (List.mem_of_getElem? (i := 3) rfl))) dX11_odd_31 ?_
          refine gX_i43 (v := (I9640 43)) hk hin9 (List.mem_cons_of_mem _ (List.mem_append_left _ (List.mem_of_getElem? (i := 9) rfl))) dX11_odd_34 rfl ?_
          refine g_goto (tgt := 47) hk dX11_odd_37 (by decide) ?_
          have b9643l := Int32.le_toInt (I9640 43)
          have b9643h := Int32.toInt_lt (I9640 43)
          exact g_iret hk hR rfl ⟨I9640, A9640, (show Md [28, 30, 31, 32, 33, 34, 38, 39, 43, 44] I I9640 from (Md.tr Md.rf hI9640 rfl)), (show Md [21, 22, 23, 30, 31] A A9640 from (Md.tr Md.rf hA9640 rfl)), hV9640, (I9640 43), hF, rfl, rfl⟩ dX11_odd_47
      · skip
        replace hF := FE.neg hF c9557
        refine g_iconst (v := (-1)) hk dX11_odd_16 (by decide) ?_
        exact g_iret hk hR rfl ⟨I, A, (show Md [28, 30, 31, 32, 33, 34, 38, 39, 43, 44] I I from Md.rf), (show Md [21, 22, 23, 30, 31] A A from Md.rf), hIv, (-1), hF, rfl, rfl⟩ dX11_odd_17
noncomputable def bX6_flatWindows_7 (I : Nat → Int32) (A : Nat → Nat → Int32) (z1 : Int32) : (Int32 → Int32 → Int32 → (Int32)) → Int32 → Int32 → Int32 → (Int32) := fun kk9815 x9647 x9648 x9649 => if (I 18).toInt ≤ x9647.toInt then x9649 else if fX6_hasReading I A x9647 = 0 then if 0 < z1.toInt then f_lt (x9647 + Int32.ofInt 1) fun y9824 => kk9815 y9824 0 x9649 else f_lt (x9649 + Int32.ofInt 1) fun y9827 => f_lt (x9647 + Int32.ofInt 1) fun y9828 => kk9815 y9828 0 y9827 else if x9648.toInt ≤ 0 then if 1 < z1.toInt then f_lt (x9647 + Int32.ofInt 1) fun y9834 => kk9815 y9834 1 x9649 else f_lt (x9649 + Int32.ofInt 1) fun y9837 => f_lt (x9647 + Int32.ofInt 1) fun y9838 => kk9815 y9838 1 y9837 else f_lt (fX6_valueAt I A x9647) fun y9840 => f_lt (x9647 - (1 : Int32)) fun y9841 => f_lt (fX6_valueAt I A y9841) fun y9842 => if y9840.toInt ≠ y9842.toInt then if 1 < z1.toInt then f_lt (x9647 + Int32.ofInt 1) fun y9848 => kk9815 y9848 1 x9649 else f_lt (x9649 + Int32.ofInt 1) fun y9851 => f_lt (x9647 + Int32.ofInt 1) fun y9852 => kk9815 y9852 1 y9851 else f_lt (x9648 + Int32.ofInt 1) fun y9854 => if y9854.toInt < z1.toInt then f_lt (x9647 + Int32.ofInt 1) fun y9858 => kk9815 y9858 y9854 x9649 else f_lt (x9649 + Int32.ofInt 1) fun y9860 => f_lt (x9647 + Int32.ofInt 1) fun y9861 => kk9815 y9861 y9854 y9860
noncomputable def fX6_flatWindows (I : Nat → Int32) (A : Nat → Nat → Int32) (z1 : Int32) : Int32 := itr_iii (0 : Int32) (bX6_flatWindows_7 I A z1) FU 0 0 0
def wo_k307_X6_flatWindows : List Cond := [Cond.fieldLink RX6 19 "WarpDesk$Series" "size" "I", Cond.methodLink RX6 37 yX6_hasReading, Cond.instanceMethod yX6_hasReading, Cond.selects RX6 yX6_hasReading yX6_hasReading, Cond.initialized RX6, Cond.methodLink RX6 33 yX6_valueAt, Cond.instanceMethod yX6_valueAt, Cond.selects RX6 yX6_valueAt yX6_valueAt]
def wz_k307_X6_flatWindows : List Cond := .code yX6_flatWindows cX6_flatWindows 5 (some .int) :: (wo_k307_X6_flatWindows ++ (wsX60 ++ (wz_k188_X6_hasReading ++ (wz_k179_X6_valueAt ++ ([] : List Cond)))))
theorem zg_k307_X6_flatWindows : ∀ w ∈ wz_k307_X6_flatWindows, goodWord w = true := zg_cons rfl (zg_app (by decide +kernel) (zg_app zgU_wsX60 (zg_app zg_k188_X6_hasReading (zg_app zg_k179_X6_valueAt zg_nil))))
theorem zi_k307_X6_flatWindows : ∀ w ∈ wz_k307_X6_flatWindows, w ∈ lw_tbl := zi_cons zw_1312 (zi_app (zi_cons zw_282 (zi_cons zw_905 (zi_cons zw_840 (zi_cons zw_841 (zi_cons zw_109 (zi_cons zw_843 (zi_cons zw_807 (zi_cons zw_808 zi_nil)))))))) (zi_app inX6 (zi_app zi_k188_X6_hasReading (zi_app zi_k179_X6_valueAt zi_nil))))
set_option maxHeartbeats 4000000 in
set_option maxRecDepth 100000 in
theorem k307_X6_flatWindows (l : Launch) (D : va_G) (zt : Nat × Nat × Nat × (Nat → Nat) × (Nat → Nat)) (q : Nat → Nat) (d : Nat → ClassId) (I : Nat → Int32) (A : Nat → Nat → Int32) (z1 : Int32) (hIv : IvX I A) : GM l D zt (tyX d) yX6_flatWindows wz_k307_X6_flatWindows ({ frames := 2, cells := 0, slots := 0, locals := 42 } : Room) [.ref (q 13), .int z1] (wX q d I A) (fun v _ w' => ∃ y0 : Int32, FE (fX6_flatWindows I A z1) y0 ∧ v = some (.int y0) ∧ w' = wX q d I A) 0 0 := by
  refine GM.of (cc := cX6_flatWindows) (maxL := 5) (ret := (some .int)) (own := RX6) (lv := [(0, .ref (q 13)), (1, .int z1)]) (by decide) rfl rfl (Nat.le_of_ble_eq_true rfl) rfl (fun κ sz hk hR hN => ?_)
  have hin6 : ∀ w ∈ u_ws RX6 TX6 3, w ∈ wz_k307_X6_flatWindows := fun w h => (List.mem_cons_of_mem _ (List.mem_append_right _ (List.mem_append_left _ h)))
  have hF : FE (fX6_flatWindows I A z1) (fX6_flatWindows I A z1) := FE.rf
  refine g_iconst (v := 0) hk dX6_flatWindows_0 (by decide) ?_
  refine g_istore_n (lv' := [(2, .int 0), (0, .ref (q 13)), (1, .int z1)]) hk dX6_flatWindows_1 (by decide) rfl ?_
  refine g_iconst (v := 0) hk dX6_flatWindows_2 (by decide) ?_
  refine g_istore_n (lv' := [(3, .int 0), (2, .int 0), (0, .ref (q 13)), (1, .int z1)]) hk dX6_flatWindows_3 (by decide) rfl ?_
  refine g_iconst (v := 0) hk dX6_flatWindows_4 (by decide) ?_
  refine g_istore (lv' := [(4, .int 0), (3, .int 0), (2, .int 0), (0, .ref (q 13)), (1, .int z1)]) hk dX6_flatWindows_5 (by decide) rfl ?_
  have lp9812 : ∀ (n9813 : Nat) (x9647 : Int32) (x9648 : Int32) (x9649 : Int32), (0 ≤ x9647.toInt) → (x9647.toInt ≤ 160) → (161 - x9647.toInt < (n9813 : Int)) → (0 < n9813) → (FE (fX6_flatWindows I A z1) (itr_iii (0 : Int32) (bX6_flatWindows_7 I A z1) n9813 x9647 x9648 x9649)) → GW κ 5 0 0 (wX q d I A) 7 [(4, .int x9647), (3, .int x9648), (2, .int x9649), (0, .ref (q 13)), (1, .int z1)] [] := by
    intro n9813
    induction n9813 with
    | zero =>
      intro x9647 x9648 x9649 h9810 h9811 m9814 m9814z hF
      exact absurd m9814z (Nat.lt_irrefl 0)
    | succ n9813 ih9816 =>
      intro x9647 x9648 x9649 h9810 h9811 m9814 m9814z hF
      replace hF := FE.itr_iii hF
      refine g_iload hk dX6_flatWindows_7 rfl ?_
      refine g_aload_n hk dX6_flatWindows_9 rfl ?_
      refine gX_i18 (v := (I 18)) hk hin6 (List.mem_cons_of_mem _ (List.mem_append_left _ (List.mem_of_getElem? (i := 0) rfl))) dX6_flatWindows_10 rfl ?_
      have f9817 := IvX_f18 hIv
      refine g_icmp_ge (tgt := 73) (a := x9647.toInt) (b := (I 18).toInt) hk dX6_flatWindows_13 (by decide) rfl rfl (fun c9818 => ?_) (fun c9818 => ?_)
      · skip
        replace hF := FE.pos hF c9818
        refine g_iload_n hk dX6_flatWindows_73 rfl ?_
        have b9819l := Int32.le_toInt x9649
        have b9819h := Int32.toInt_lt x9649
        exact g_iret hk hR rfl ⟨x9649, hF, rfl, rfl⟩ dX6_flatWindows_74
      · skip
        replace hF := FE.neg hF c9818
        refine g_aload_n hk dX6_flatWindows_16 rfl ?_
        refine g_iload hk dX6_flatWindows_17 rfl ?_
        refine g_callV (n := 1) hk (k188_X6_hasReading l D zt q d I A x9647 hIv) (SP.same _) (fun _ h => h) (gi_V (List.mem_cons_of_mem _ (List.mem_append_left _ (List.mem_of_getElem? (i := 1) rfl))) (List.mem_cons_of_mem _ (List.mem_append_left _ (List.mem_of_getElem? (i := 2) rfl))) (List.mem_cons_of_mem _ (List.mem_append_left _ (List.mem_of_getElem? (i := 3) rfl))) (List.mem_cons_of_mem _ (List.mem_append_left _ (List.mem_of_getElem? (i := 4) rfl))) (gi_sub (fun w h => (List.mem_cons_of_mem _ (List.mem_append_right _ (List.mem_append_right _ (List.mem_append_left _ h))))) zg_k188_X6_hasReading)) rfl rfl rfl (by decide +kernel) ⟨Nat.le_of_ble_eq_true rfl, Nat.le_of_ble_eq_true rfl⟩ 13 rfl rfl rfl rfl (Nat.le_of_ble_eq_true rfl) ⟨Nat.le_of_ble_eq_true rfl, Nat.le_of_ble_eq_true rfl⟩ dX6_flatWindows_19 (fun v ty' w' hp hk' => ?_)
        rcases hp with ⟨hC, rfl, rfl⟩ | ⟨hC, rfl, rfl⟩
        · skip
          replace hF := FE.pos hF hC
          show GW κ 5 0 0 (wX q d I A) 22 [(4, .int x9647), (3, .int x9648), (2, .int x9649), (0, .ref (q 13)), (1, .int z1)] [.int 0]
          refine g_if_ne (tgt := 30) (a := 0) hk dX6_flatWindows_22 (by decide) rfl (fun z9 => absurd z9 (show ¬ ((0 : Int) ≠ (0 : Int)) from by decide)) (fun _ => ?_)
          refine g_iconst (v := 0) hk dX6_flatWindows_25 (by decide) ?_
          refine g_istore_n (lv' := [(3, .int 0), (4, .int x9647), (2, .int x9649), (0, .ref (q 13)), (1, .int z1)]) hk dX6_flatWindows_26 (by decide) rfl ?_
          refine g_goto (tgt := 59) hk dX6_flatWindows_27 (by decide) ?_
          refine g_iload_n hk dX6_flatWindows_59 rfl ?_
          refine g_iload_n hk dX6_flatWindows_60 rfl ?_
          have b9822l := Int32.le_toInt z1
          have b9822h := Int32.toInt_lt z1
          refine g_icmp_lt (tgt := 67) (a := 0) (b := z1.toInt) hk dX6_flatWindows_61 (by decide) rfl rfl (fun c9823 => ?_) (fun c9823 => ?_)
          · skip
            replace hF := FE.pos hF c9823
            obtain ⟨y9824, ey9824⟩ : ∃ y : Int32, y = x9647 + Int32.ofInt 1 := ⟨_, rfl⟩
            replace hF := FE.lt hF ey9824
            have hy9824 : y9824.toInt = x9647.toInt + 1 := i32_add ey9824 rfl (by decide) (by omega) (by omega)
            refine g_iinc (v := y9824) (lv' := [(4, .int y9824), (3, .int 0), (2, .int x9649), (0, .ref (q 13)), (1, .int z1)]) hk 1 dX6_flatWindows_67 rfl ey9824.symm (by decide) rfl ?_
            refine g_goto (tgt := 7) hk dX6_flatWindows_70 (by decide) ?_
            have k9825 : (0 : Int32).toInt = 0 := rfl
            exact g_lv (List.forall_mem_cons.mpr ⟨List.mem_of_getElem? (i := 0) rfl, (List.forall_mem_cons.mpr ⟨List.mem_of_getElem? (i := 1) rfl, (List.forall_mem_cons.mpr ⟨List.mem_of_getElem? (i := 2) rfl, (List.forall_mem_cons.mpr ⟨List.mem_of_getElem? (i := 3) rfl, (List.forall_mem_cons.mpr ⟨List.mem_of_getElem? (i := 4) rfl, (fun _ h => absurd h List.not_mem_nil)⟩)⟩)⟩)⟩)⟩) (ih9816 y9824 0 x9649 (by omega) (by omega) (by omega) (by omega) hF)
          · skip
            replace hF := FE.neg hF c9823
            have b9826l := Int32.le_toInt x9649
            have b9826h := Int32.toInt_lt x9649
            obtain ⟨y9827, ey9827⟩ : ∃ y : Int32, y = x9649 + Int32.ofInt 1 := ⟨_, rfl⟩
            replace hF := FE.lt hF ey9827
            refine g_iinc (v := y9827) (lv' := [(2, .int y9827), (3, .int 0), (4, .int x9647), (0, .ref (q 13)), (1, .int z1)]) hk 2 dX6_flatWindows_64 rfl ey9827.symm (by decide) rfl ?_
            obtain ⟨y9828, ey9828⟩ : ∃ y : Int32, y = x9647 + Int32.ofInt 1 := ⟨_, rfl⟩
            replace hF := FE.lt hF ey9828
            have hy9828 : y9828.toInt = x9647.toInt + 1 := i32_add ey9828 rfl (by decide) (by omega) (by omega)
            refine g_iinc (v := y9828) (lv' := [(4, .int y9828), (2, .int y9827), (3, .int 0), (0, .ref (q 13)), (1, .int z1)]) hk 2 dX6_flatWindows_67 rfl ey9828.symm (by decide) rfl ?_
            refine g_goto (tgt := 7) hk dX6_flatWindows_70 (by decide) ?_
            have k9829 : (0 : Int32).toInt = 0 := rfl
            exact g_lv (List.forall_mem_cons.mpr ⟨List.mem_of_getElem? (i := 0) rfl, (List.forall_mem_cons.mpr ⟨List.mem_of_getElem? (i := 2) rfl, (List.forall_mem_cons.mpr ⟨List.mem_of_getElem? (i := 1) rfl, (List.forall_mem_cons.mpr ⟨List.mem_of_getElem? (i := 3) rfl, (List.forall_mem_cons.mpr ⟨List.mem_of_getElem? (i := 4) rfl, (fun _ h => absurd h List.not_mem_nil)⟩)⟩)⟩)⟩)⟩) (ih9816 y9828 0 y9827 (by omega) (by omega) (by omega) (by omega) hF)
        · skip
          replace hF := FE.neg hF (fe_ne hC (by decide))
          show GW κ 5 0 0 (wX q d I A) 22 [(4, .int x9647), (3, .int x9648), (2, .int x9649), (0, .ref (q 13)), (1, .int z1)] [.int 1]
          refine g_if_ne (tgt := 30) (a := 1) hk dX6_flatWindows_22 (by decide) rfl (fun _ => ?_) (fun z9 => absurd (show (1 : Int) ≠ (0 : Int) from by decide) z9)
          refine g_iload_n hk dX6_flatWindows_30 rfl ?_
          have b9830l := Int32.le_toInt x9648
          have b9830h := Int32.toInt_lt x9648
          refine g_if_le (tgt := 57) (a := x9648.toInt) hk dX6_flatWindows_31 (by decide) rfl (fun c9831 => ?_) (fun c9831 => ?_)
          · skip
            replace hF := FE.pos hF c9831
            refine g_iconst (v := 1) hk dX6_flatWindows_57 (by decide) ?_
            refine g_istore_n (lv' := [(3, .int 1), (4, .int x9647), (2, .int x9649), (0, .ref (q 13)), (1, .int z1)]) hk dX6_flatWindows_58 (by decide) rfl ?_
            refine g_iload_n hk dX6_flatWindows_59 rfl ?_
            refine g_iload_n hk dX6_flatWindows_60 rfl ?_
            have b9832l := Int32.le_toInt z1
            have b9832h := Int32.toInt_lt z1
            refine g_icmp_lt (tgt := 67) (a := 1) (b := z1.toInt) hk dX6_flatWindows_61 (by decide) rfl rfl (fun c9833 => ?_) (fun c9833 => ?_)
            · skip
              replace hF := FE.pos hF c9833
              obtain ⟨y9834, ey9834⟩ : ∃ y : Int32, y = x9647 + Int32.ofInt 1 := ⟨_, rfl⟩
              replace hF := FE.lt hF ey9834
              have hy9834 : y9834.toInt = x9647.toInt + 1 := i32_add ey9834 rfl (by decide) (by omega) (by omega)
              refine g_iinc (v := y9834) (lv' := [(4, .int y9834), (3, .int 1), (2, .int x9649), (0, .ref (q 13)), (1, .int z1)]) hk 1 dX6_flatWindows_67 rfl ey9834.symm (by decide) rfl ?_
              refine g_goto (tgt := 7) hk dX6_flatWindows_70 (by decide) ?_
              have k9835 : (1 : Int32).toInt = 1 := rfl
              exact g_lv (List.forall_mem_cons.mpr ⟨List.mem_of_getElem? (i := 0) rfl, (List.forall_mem_cons.mpr ⟨List.mem_of_getElem? (i := 1) rfl, (List.forall_mem_cons.mpr ⟨List.mem_of_getElem? (i := 2) rfl, (List.forall_mem_cons.mpr ⟨List.mem_of_getElem? (i := 3) rfl, (List.forall_mem_cons.mpr ⟨List.mem_of_getElem? (i := 4) rfl, (fun _ h => absurd h List.not_mem_nil)⟩)⟩)⟩)⟩)⟩) (ih9816 y9834 1 x9649 (by omega) (by omega) (by omega) (by omega) hF)
            · skip
              replace hF := FE.neg hF c9833
              have b9836l := Int32.le_toInt x9649
              have b9836h := Int32.toInt_lt x9649
              obtain ⟨y9837, ey9837⟩ : ∃ y : Int32, y = x9649 + Int32.ofInt 1 := ⟨_, rfl⟩
              replace hF := FE.lt hF ey9837
              refine g_iinc (v := y9837) (lv' := [(2, .int y9837), (3, .int 1), (4, .int x9647), (0, .ref (q 13)), (1, .int z1)]) hk 2 dX6_flatWindows_64 rfl ey9837.symm (by decide) rfl ?_
              obtain ⟨y9838, ey9838⟩ : ∃ y : Int32, y = x9647 + Int32.ofInt 1 := ⟨_, rfl⟩
              replace hF := FE.lt hF ey9838
              have hy9838 : y9838.toInt = x9647.toInt + 1 := i32_add ey9838 rfl (by decide) (by omega) (by omega)
              refine g_iinc (v := y9838) (lv' := [(4, .int y9838), (2, .int y9837), (3, .int 1), (0, .ref (q 13)), (1, .int z1)]) hk 2 dX6_flatWindows_67 rfl ey9838.symm (by decide) rfl ?_
              refine g_goto (tgt := 7) hk dX6_flatWindows_70 (by decide) ?_
              have k9839 : (1 : Int32).toInt = 1 := rfl
              exact g_lv (List.forall_mem_cons.mpr ⟨List.mem_of_getElem? (i := 0) rfl, (List.forall_mem_cons.mpr ⟨List.mem_of_getElem? (i := 2) rfl, (List.forall_mem_cons.mpr ⟨List.mem_of_getElem? (i := 1) rfl, (List.forall_mem_cons.mpr ⟨List.mem_of_getElem? (i := 3) rfl, (List.forall_mem_cons.mpr ⟨List.mem_of_getElem? (i := 4) rfl, (fun _ h => absurd h List.not_mem_nil)⟩)⟩)⟩)⟩)⟩) (ih9816 y9838 1 y9837 (by omega) (by omega) (by omega) (by omega) hF)
          · skip
            replace hF := FE.neg hF c9831
            refine g_aload_n hk dX6_flatWindows_34 rfl ?_
            refine g_iload hk dX6_flatWindows_35 rfl ?_
            refine g_callV (n := 1) hk (k179_X6_valueAt l D zt q d I A x9647 hIv) (SP.same _) (fun _ h => h) (gi_V (List.mem_cons_of_mem _ (List.mem_append_left _ (List.mem_of_getElem? (i := 5) rfl))) (List.mem_cons_of_mem _ (List.mem_append_left _ (List.mem_of_getElem? (i := 6) rfl))) (List.mem_cons_of_mem _ (List.mem_append_left _ (List.mem_of_getElem? (i := 7) rfl))) (List.mem_cons_of_mem _ (List.mem_append_left _ (List.mem_of_getElem? (i := 4) rfl))) (gi_sub (fun w h => (List.mem_cons_of_mem _ (List.mem_append_right _ (List.mem_append_right _ (List.mem_append_right _ (List.mem_append_left _ h)))))) zg_k179_X6_valueAt)) rfl rfl rfl (by decide +kernel) ⟨Nat.le_of_ble_eq_true rfl, Nat.le_of_ble_eq_true rfl⟩ 13 rfl rfl rfl rfl (Nat.le_of_ble_eq_true rfl) ⟨Nat.le_of_ble_eq_true rfl, Nat.le_of_ble_eq_true rfl⟩ dX6_flatWindows_37 (fun v ty' w' hp hk' => ?_)
            obtain ⟨y9840, hC, rfl, rfl⟩ := hp
            replace hF := FE.lt hF (fe_s hC)
            show GW κ 5 0 0 (wX q d I A) 40 [(4, .int x9647), (3, .int x9648), (2, .int x9649), (0, .ref (q 13)), (1, .int z1)] [.int y9840]
            refine g_aload_n hk dX6_flatWindows_40 rfl ?_
            refine g_iload hk dX6_flatWindows_41 rfl ?_
            refine g_iconst (v := 1) hk dX6_flatWindows_43 (by decide) ?_
            refine g_isub hk dX6_flatWindows_44 ?_
            refine g_topi (fun y9841 ey9841 => ?_)
            replace hF := FE.lt hF ey9841
            have hy9841 : y9841.toInt = x9647.toInt - 1 := i32_sub ey9841 rfl rfl (by omega) (by omega)
            refine g_callV (n := 1) hk (k179_X6_valueAt l D zt q d I A y9841 hIv) (SP.same _) (fun _ h => h) (gi_V (List.mem_cons_of_mem _ (List.mem_append_left _ (List.mem_of_getElem? (i := 5) rfl))) (List.mem_cons_of_mem _ (List.mem_append_left _ (List.mem_of_getElem? (i := 6) rfl))) (List.mem_cons_of_mem _ (List.mem_append_left _ (List.mem_of_getElem? (i := 7) rfl))) (List.mem_cons_of_mem _ (List.mem_append_left _ (List.mem_of_getElem? (i := 4) rfl))) (gi_sub (fun w h => (List.mem_cons_of_mem _ (List.mem_append_right _ (List.mem_append_right _ (List.mem_append_right _ (List.mem_append_left _ h)))))) zg_k179_X6_valueAt)) rfl rfl rfl (by decide +kernel) ⟨Nat.le_of_ble_eq_true rfl, Nat.le_of_ble_eq_true rfl⟩ 13 rfl rfl rfl rfl (Nat.le_of_ble_eq_true rfl) ⟨Nat.le_of_ble_eq_true rfl, Nat.le_of_ble_eq_true rfl⟩ dX6_flatWindows_45 (fun v ty' w' hp hk' => ?_)
            obtain ⟨y9842, hC, rfl, rfl⟩ := hp
            replace hF := FE.lt hF (fe_s hC)
            show GW κ 5 0 0 (wX q d I A) 48 [(4, .int x9647), (3, .int x9648), (2, .int x9649), (0, .ref (q 13)), (1, .int z1)] [.int y9842, .int y9840]
            have b9843l := Int32.le_toInt y9840
            have b9843h := Int32.toInt_lt y9840
            have b9844l := Int32.le_toInt y9842
            have b9844h := Int32.toInt_lt y9842
            refine g_icmp_ne (tgt := 57) (a := y9840.toInt) (b := y9842.toInt) hk dX6_flatWindows_48 (by decide) rfl rfl (fun c9845 => ?_) (fun c9845 => ?_)
            · skip
              replace hF := FE.pos hF c9845
              refine g_iconst (v := 1) hk dX6_flatWindows_57 (by decide) ?_
              refine g_istore_n (lv' := [(3, .int 1), (4, .int x9647), (2, .int x9649), (0, .ref (q 13)), (1, .int z1)]) hk dX6_flatWindows_58 (by decide) rfl ?_
              refine g_iload_n hk dX6_flatWindows_59 rfl ?_
              refine g_iload_n hk dX6_flatWindows_60 rfl ?_
              have b9846l := Int32.le_toInt z1
              have b9846h := Int32.toInt_lt z1
              refine g_icmp_lt (tgt := 67) (a := 1) (b := z1.toInt) hk dX6_flatWindows_61 (by decide) rfl rfl (fun c9847 => ?_) (fun c9847 => ?_)
              · skip
                replace hF := FE.pos hF c9847
                obtain ⟨y9848, ey9848⟩ : ∃ y : Int32, y = x9647 + Int32.ofInt 1 := ⟨_, rfl⟩
                replace hF := FE.lt hF ey9848
                have hy9848 : y9848.toInt = x9647.toInt + 1 := i32_add ey9848 rfl (by decide) (by omega) (by omega)
                refine g_iinc (v := y9848) (lv' := [(4, .int y9848), (3, .int 1), (2, .int x9649), (0, .ref (q 13)), (1, .int z1)]) hk 1 dX6_flatWindows_67 rfl ey9848.symm (by decide) rfl ?_
                refine g_goto (tgt := 7) hk dX6_flatWindows_70 (by decide) ?_
                have k9849 : (1 : Int32).toInt = 1 := rfl
                exact g_lv (List.forall_mem_cons.mpr ⟨List.mem_of_getElem? (i := 0) rfl, (List.forall_mem_cons.mpr ⟨List.mem_of_getElem? (i := 1) rfl, (List.forall_mem_cons.mpr ⟨List.mem_of_getElem? (i := 2) rfl, (List.forall_mem_cons.mpr ⟨List.mem_of_getElem? (i := 3) rfl, (List.forall_mem_cons.mpr ⟨List.mem_of_getElem? (i := 4) rfl, (fun _ h => absurd h List.not_mem_nil)⟩)⟩)⟩)⟩)⟩) (ih9816 y9848 1 x9649 (by omega) (by omega) (by omega) (by omega) hF)
              · skip
                replace hF := FE.neg hF c9847
                have b9850l := Int32.le_toInt x9649
                have b9850h := Int32.toInt_lt x9649
                obtain ⟨y9851, ey9851⟩ : ∃ y : Int32, y = x9649 + Int32.ofInt 1 := ⟨_, rfl⟩
                replace hF := FE.lt hF ey9851
                refine g_iinc (v := y9851) (lv' := [(2, .int y9851), (3, .int 1), (4, .int x9647), (0, .ref (q 13)), (1, .int z1)]) hk 2 dX6_flatWindows_64 rfl ey9851.symm (by decide) rfl ?_
                obtain ⟨y9852, ey9852⟩ : ∃ y : Int32, y = x9647 + Int32.ofInt 1 := ⟨_, rfl⟩
                replace hF := FE.lt hF ey9852
                have hy9852 : y9852.toInt = x9647.toInt + 1 := i32_add ey9852 rfl (by decide) (by omega) (by omega)
                refine g_iinc (v := y9852) (lv' := [(4, .int y9852), (2, .int y9851), (3, .int 1), (0, .ref (q 13)), (1, .int z1)]) hk 2 dX6_flatWindows_67 rfl ey9852.symm (by decide) rfl ?_
                refine g_goto (tgt := 7) hk dX6_flatWindows_70 (by decide) ?_
                have k9853 : (1 : Int32).toInt = 1 := rfl
                exact g_lv (List.forall_mem_cons.mpr ⟨List.mem_of_getElem? (i := 0) rfl, (List.forall_mem_cons.mpr ⟨List.mem_of_getElem? (i := 2) rfl, (List.forall_mem_cons.mpr ⟨List.mem_of_getElem? (i := 1) rfl, (List.forall_mem_cons.mpr ⟨List.mem_of_getElem? (i := 3) rfl, (List.forall_mem_cons.mpr ⟨List.mem_of_getElem? (i := 4) rfl, (fun _ h => absurd h List.not_mem_nil)⟩)⟩)⟩)⟩)⟩) (ih9816 y9852 1 y9851 (by omega) (by omega) (by omega) (by omega) hF)
            · skip
              replace hF := FE.neg hF c9845
              obtain ⟨y9854, ey9854⟩ : ∃ y : Int32, y = x9648 + Int32.ofInt 1 := ⟨_, rfl⟩
              replace hF := FE.lt hF ey9854
              refine g_iinc (v := y9854) (lv' := [(3, .int y9854), (4, .int x9647), (2, .int x9649), (0, .ref (q 13)), (1, .int z1)]) hk 1 dX6_flatWindows_51 rfl ey9854.symm (by decide) rfl ?_
              refine g_goto (tgt := 59) hk dX6_flatWindows_54 (by decide) ?_
              refine g_iload_n hk dX6_flatWindows_59 rfl ?_
              refine g_iload_n hk dX6_flatWindows_60 rfl ?_
              have b9855l := Int32.le_toInt y9854
              have b9855h := Int32.toInt_lt y9854
              have b9856l := Int32.le_toInt z1
              have b9856h := Int32.toInt_lt z1
              refine g_icmp_lt (tgt := 67) (a := y9854.toInt) (b := z1.toInt) hk dX6_flatWindows_61 (by decide) rfl rfl (fun c9857 => ?_) (fun c9857 => ?_)
              · skip
                replace hF := FE.pos hF c9857
                obtain ⟨y9858, ey9858⟩ : ∃ y : Int32, y = x9647 + Int32.ofInt 1 := ⟨_, rfl⟩
                replace hF := FE.lt hF ey9858
                have hy9858 : y9858.toInt = x9647.toInt + 1 := i32_add ey9858 rfl (by decide) (by omega) (by omega)
                refine g_iinc (v := y9858) (lv' := [(4, .int y9858), (3, .int y9854), (2, .int x9649), (0, .ref (q 13)), (1, .int z1)]) hk 1 dX6_flatWindows_67 rfl ey9858.symm (by decide) rfl ?_
                refine g_goto (tgt := 7) hk dX6_flatWindows_70 (by decide) ?_
                exact g_lv (List.forall_mem_cons.mpr ⟨List.mem_of_getElem? (i := 0) rfl, (List.forall_mem_cons.mpr ⟨List.mem_of_getElem? (i := 1) rfl, (List.forall_mem_cons.mpr ⟨List.mem_of_getElem? (i := 2) rfl, (List.forall_mem_cons.mpr ⟨List.mem_of_getElem? (i := 3) rfl, (List.forall_mem_cons.mpr ⟨List.mem_of_getElem? (i := 4) rfl, (fun _ h => absurd h List.not_mem_nil)⟩)⟩)⟩)⟩)⟩) (ih9816 y9858 y9854 x9649 (by omega) (by omega) (by omega) (by omega) hF)
              · skip
                replace hF := FE.neg hF c9857
                have b9859l := Int32.le_toInt x9649
                have b9859h := Int32.toInt_lt x9649
                obtain ⟨y9860, ey9860⟩ : ∃ y : Int32, y = x9649 + Int32.ofInt 1 := ⟨_, rfl⟩
                replace hF := FE.lt hF ey9860
                refine g_iinc (v := y9860) (lv' := [(2, .int y9860), (3, .int y9854), (4, .int x9647), (0, .ref (q 13)), (1, .int z1)]) hk 2 dX6_flatWindows_64 rfl ey9860.symm (by decide) rfl ?_
                obtain ⟨y9861, ey9861⟩ : ∃ y : Int32, y = x9647 + Int32.ofInt 1 := ⟨_, rfl⟩
                replace hF := FE.lt hF ey9861
                have hy9861 : y9861.toInt = x9647.toInt + 1 := i32_add ey9861 rfl (by decide) (by omega) (by omega)
                refine g_iinc (v := y9861) (lv' := [(4, .int y9861), (2, .int y9860), (3, .int y9854), (0, .ref (q 13)), (1, .int z1)]) hk 2 dX6_flatWindows_67 rfl ey9861.symm (by decide) rfl ?_
                refine g_goto (tgt := 7) hk dX6_flatWindows_70 (by decide) ?_
                exact g_lv (List.forall_mem_cons.mpr ⟨List.mem_of_getElem? (i := 0) rfl, (List.forall_mem_cons.mpr ⟨List.mem_of_getElem? (i := 2) rfl, (List.forall_mem_cons.mpr ⟨List.mem_of_getElem? (i := 1) rfl, (List.forall_mem_cons.mpr ⟨List.mem_of_getElem? (i := 3) rfl, (List.forall_mem_cons.mpr ⟨List.mem_of_getElem? (i := 4) rfl, (fun _ h => absurd h List.not_mem_nil)⟩)⟩)⟩)⟩)⟩) (ih9816 y9861 y9854 y9860 (by omega) (by omega) (by omega) (by omega) hF)
  have k9863 : (0 : Int32).toInt = 0 := rfl
  have n9862a : 161 - 0 < (FU : Int) := by have := FU_eq; omega
  have n9862b : 0 < FU := by have := FU_eq; omega
  exact lp9812 FU 0 0 0 (by omega) (by omega) n9862a n9862b hF
noncomputable def fX11_flat (I : Nat → Int32) (A : Nat → Nat → Int32) (z1 : Int32) : Int32 := if z1.toInt < 1 then (-1) else if z1.toInt ≤ 160 then f_lt (fX6_flatWindows I A z1) fun y9864 => y9864 else (-1)
def wo_k306_X11_flat : List Cond := [Cond.fieldLink RX11 28 "WarpDesk" "series" "LWarpDesk$Series;", Cond.methodLink RX11 353 yX6_flatWindows, Cond.instanceMethod yX6_flatWindows, Cond.selects RX6 yX6_flatWindows yX6_flatWindows, Cond.initialized RX6]
def wz_k306_X11_flat : List Cond := .code yX11_flat cX11_flat 2 (some .int) :: (wo_k306_X11_flat ++ (wsX110 ++ (wz_k307_X6_flatWindows ++ ([] : List Cond))))
theorem zg_k306_X11_flat : ∀ w ∈ wz_k306_X11_flat, goodWord w = true := zg_cons rfl (zg_app (by decide +kernel) (zg_app zgU_wsX110 (zg_app zg_k307_X6_flatWindows zg_nil)))
theorem zi_k306_X11_flat : ∀ w ∈ wz_k306_X11_flat, w ∈ lw_tbl := zi_cons zw_1308 (zi_app (zi_cons zw_489 (zi_cons zw_1309 (zi_cons zw_1310 (zi_cons zw_1311 (zi_cons zw_109 zi_nil))))) (zi_app inX11 (zi_app zi_k307_X6_flatWindows zi_nil)))
set_option maxHeartbeats 4000000 in
set_option maxRecDepth 100000 in
theorem k306_X11_flat (l : Launch) (D : va_G) (zt : Nat × Nat × Nat × (Nat → Nat) × (Nat → Nat)) (q : Nat → Nat) (d : Nat → ClassId) (I : Nat → Int32) (A : Nat → Nat → Int32) (z1 : Int32) (hIv : IvX I A) : GM l D zt (tyX d) yX11_flat wz_k306_X11_flat ({ frames := 3, cells := 0, slots := 0, locals := 66 } : Room) [.ref (q 0), .int z1] (wX q d I A) (fun v _ w' => ∃ y0 : Int32, FE (fX11_flat I A z1) y0 ∧ v = some (.int y0) ∧ w' = wX q d I A) 0 0 := by
  refine GM.of (cc := cX11_flat) (maxL := 2) (ret := (some .int)) (own := RX11) (lv := [(0, .ref (q 0)), (1, .int z1)]) (by decide) rfl rfl (Nat.le_of_ble_eq_true rfl) rfl (fun κ sz hk hR hN => ?_)
  have hin11 : ∀ w ∈ u_ws RX11 TX11 10, w ∈ wz_k306_X11_flat := fun w h => (List.mem_cons_of_mem _ (List.mem_append_right _ (List.mem_append_left _ h)))
  have hF : FE (fX11_flat I A z1) (fX11_flat I A z1) := FE.rf
  refine g_iload_n hk dX11_flat_0 rfl ?_
  refine g_iconst (v := 1) hk dX11_flat_1 (by decide) ?_
  have b9644l := Int32.le_toInt z1
  have b9644h := Int32.toInt_lt z1
  refine g_icmp_lt (tgt := 12) (a := z1.toInt) (b := 1) hk dX11_flat_2 (by decide) rfl rfl (fun c9645 => ?_) (fun c9645 => ?_)
  · skip
    replace hF := FE.pos hF c9645
    refine g_iconst (v := (-1)) hk dX11_flat_12 (by decide) ?_
    refine g_goto (tgt := 24) hk dX11_flat_13 (by decide) ?_
    exact g_iret hk hR rfl ⟨(-1), hF, rfl, rfl⟩ dX11_flat_24
  · skip
    replace hF := FE.neg hF c9645
    refine g_iload_n hk dX11_flat_5 rfl ?_
    refine g_sipush (v := 160) hk dX11_flat_6 (by decide) ?_
    refine g_icmp_le (tgt := 16) (a := z1.toInt) (b := 160) hk dX11_flat_9 (by decide) rfl rfl (fun c9646 => ?_) (fun c9646 => ?_)
    · skip
      replace hF := FE.pos hF c9646
      refine g_aload_n hk dX11_flat_16 rfl ?_
      refine gX_r0_2 hk hin11 (List.mem_cons_of_mem _ (List.mem_append_left _ (List.mem_of_getElem? (i := 0) rfl))) dX11_flat_17 ?_
      refine g_iload_n hk dX11_flat_20 rfl ?_
      refine g_callV (n := 1) hk (k307_X6_flatWindows l D zt q d I A z1 hIv) (SP.same _) (fun _ h => h) (gi_V (List.mem_cons_of_mem _ (List.mem_append_left _ (List.mem_of_getElem? (i := 1) rfl))) (List.mem_cons_of_mem _ (List.mem_append_left _ (List.mem_of_getElem? (i := 2) rfl))) (List.mem_cons_of_mem _ (List.mem_append_left _ (List.mem_of_getElem? (i := 3) rfl))) (List.mem_cons_of_mem _ (List.mem_append_left _ (List.mem_of_getElem? (i := 4) rfl))) (gi_sub (fun w h => (List.mem_cons_of_mem _ (List.mem_append_right _ (List.mem_append_right _ (List.mem_append_left _ h))))) zg_k307_X6_flatWindows)) rfl rfl rfl (by decide +kernel) ⟨Nat.le_of_ble_eq_true rfl, Nat.le_of_ble_eq_true rfl⟩ 13 rfl rfl rfl rfl (Nat.le_of_ble_eq_true rfl) ⟨Nat.le_of_ble_eq_true rfl, Nat.le_of_ble_eq_true rfl⟩ dX11_flat_21 (fun v ty' w' hp hk' => ?_)
      obtain ⟨y9864, hC, rfl, rfl⟩ := hp
      replace hF := FE.lt hF (fe_s hC)
      show GW κ 2 0 0 (wX q d I A) 24 [(0, .ref (q 0)), (1, .int z1)] [.int y9864]
      have b9865l := Int32.le_toInt y9864
      have b9865h := Int32.toInt_lt y9864
      exact g_iret hk hR rfl ⟨y9864, hF, rfl, rfl⟩ dX11_flat_24
    · skip
      replace hF := FE.neg hF c9646
      refine g_iconst (v := (-1)) hk dX11_flat_12 (by decide) ?_
      refine g_goto (tgt := 24) hk dX11_flat_13 (by decide) ?_
      exact g_iret hk hR rfl ⟨(-1), hF, rfl, rfl⟩ dX11_flat_24
noncomputable def bX6_runFrom_4 (I : Nat → Int32) (A : Nat → Nat → Int32) : (Int32 → Int32 → (Int32)) → Int32 → Int32 → (Int32) := fun kk9913 x9876 x9877 => if (I 18).toInt ≤ x9876.toInt then x9877 else if fX6_hasReading I A x9876 = 0 then x9877 else f_lt (x9877 + Int32.ofInt 1) fun y9923 => f_lt (x9876 + Int32.ofInt 1) fun y9924 => kk9913 y9924 y9923
noncomputable def fX6_runFrom (I : Nat → Int32) (A : Nat → Nat → Int32) (z1 : Int32) : Int32 := itr_ii (0 : Int32) (bX6_runFrom_4 I A) FU z1 0
def wz_k310_X6_runFrom : List Cond := .code yX6_runFrom cX6_runFrom 4 (some .int) :: (wo_k207_X6_hasWindow ++ (wsX60 ++ (wz_k188_X6_hasReading ++ ([] : List Cond))))
theorem zg_k310_X6_runFrom : ∀ w ∈ wz_k310_X6_runFrom, goodWord w = true := zg_cons rfl (zg_app (by decide +kernel) (zg_app zgU_wsX60 (zg_app zg_k188_X6_hasReading zg_nil)))
theorem zi_k310_X6_runFrom : ∀ w ∈ wz_k310_X6_runFrom, w ∈ lw_tbl := zi_cons zw_1324 (zi_app (zi_cons zw_282 (zi_cons zw_905 (zi_cons zw_840 (zi_cons zw_841 (zi_cons zw_109 zi_nil))))) (zi_app inX6 (zi_app zi_k188_X6_hasReading zi_nil)))
set_option maxHeartbeats 4000000 in
set_option maxRecDepth 100000 in
theorem k310_X6_runFrom (l : Launch) (D : va_G) (zt : Nat × Nat × Nat × (Nat → Nat) × (Nat → Nat)) (q : Nat → Nat) (d : Nat → ClassId) (I : Nat → Int32) (A : Nat → Nat → Int32) (z1 : Int32) (hIv : IvX I A) : GM l D zt (tyX d) yX6_runFrom wz_k310_X6_runFrom ({ frames := 2, cells := 0, slots := 0, locals := 42 } : Room) [.ref (q 13), .int z1] (wX q d I A) (fun v _ w' => ∃ y0 : Int32, FE (fX6_runFrom I A z1) y0 ∧ v = some (.int y0) ∧ w' = wX q d I A) 0 0 := by
  refine GM.of (cc := cX6_runFrom) (maxL := 4) (ret := (some .int)) (own := RX6) (lv := [(0, .ref (q 13)), (1, .int z1)]) (by decide) rfl rfl (Nat.le_of_ble_eq_true rfl) rfl (fun κ sz hk hR hN => ?_)
  have hin6 : ∀ w ∈ u_ws RX6 TX6 3, w ∈ wz_k310_X6_runFrom := fun w h => (List.mem_cons_of_mem _ (List.mem_append_right _ (List.mem_append_left _ h)))
  have hF : FE (fX6_runFrom I A z1) (fX6_runFrom I A z1) := FE.rf
  refine g_iconst (v := 0) hk dX6_runFrom_0 (by decide) ?_
  refine g_istore_n (lv' := [(2, .int 0), (0, .ref (q 13)), (1, .int z1)]) hk dX6_runFrom_1 (by decide) rfl ?_
  refine g_iload_n hk dX6_runFrom_2 rfl ?_
  refine g_istore_n (lv' := [(3, .int z1), (2, .int 0), (0, .ref (q 13)), (1, .int z1)]) hk dX6_runFrom_3 (by decide) rfl ?_
  have lp9910 : ∀ (n9911 : Nat) (x9876 : Int32) (x9877 : Int32), (161 - x9876.toInt < (n9911 : Int)) → (0 < n9911) → (FE (fX6_runFrom I A z1) (itr_ii (0 : Int32) (bX6_runFrom_4 I A) n9911 x9876 x9877)) → GW κ 4 0 0 (wX q d I A) 4 [(3, .int x9876), (2, .int x9877), (0, .ref (q 13)), (1, .int z1)] [] := by
    intro n9911
    induction n9911 with
    | zero =>
      intro x9876 x9877 m9912 m9912z hF
      exact absurd m9912z (Nat.lt_irrefl 0)
    | succ n9911 ih9914 =>
      intro x9876 x9877 m9912 m9912z hF
      replace hF := FE.itr_ii hF
      refine g_iload_n hk dX6_runFrom_4 rfl ?_
      refine g_aload_n hk dX6_runFrom_5 rfl ?_
      refine gX_i18 (v := (I 18)) hk hin6 (List.mem_cons_of_mem _ (List.mem_append_left _ (List.mem_of_getElem? (i := 0) rfl))) dX6_runFrom_6 rfl ?_
      have f9915 := IvX_f18 hIv
      have b9916l := Int32.le_toInt x9876
      have b9916h := Int32.toInt_lt x9876
      refine g_icmp_ge (tgt := 29) (a := x9876.toInt) (b := (I 18).toInt) hk dX6_runFrom_9 (by decide) rfl rfl (fun c9917 => ?_) (fun c9917 => ?_)
      · skip
        replace hF := FE.pos hF c9917
        refine g_iload_n hk dX6_runFrom_29 rfl ?_
        have b9918l := Int32.le_toInt x9877
        have b9918h := Int32.toInt_lt x9877
        exact g_iret hk hR rfl ⟨x9877, hF, rfl, rfl⟩ dX6_runFrom_30
      · skip
        replace hF := FE.neg hF c9917
        refine g_aload_n hk dX6_runFrom_12 rfl ?_
        refine g_iload_n hk dX6_runFrom_13 rfl ?_
        refine g_callV (n := 1) hk (k188_X6_hasReading l D zt q d I A x9876 hIv) (SP.same _) (fun _ h => h) (gi_V (List.mem_cons_of_mem _ (List.mem_append_left _ (List.mem_of_getElem? (i := 1) rfl))) (List.mem_cons_of_mem _ (List.mem_append_left _ (List.mem_of_getElem? (i := 2) rfl))) (List.mem_cons_of_mem _ (List.mem_append_left _ (List.mem_of_getElem? (i := 3) rfl))) (List.mem_cons_of_mem _ (List.mem_append_left _ (List.mem_of_getElem? (i := 4) rfl))) (gi_sub (fun w h => (List.mem_cons_of_mem _ (List.mem_append_right _ (List.mem_append_right _ (List.mem_append_left _ h))))) zg_k188_X6_hasReading)) rfl rfl rfl (by decide +kernel) ⟨Nat.le_of_ble_eq_true rfl, Nat.le_of_ble_eq_true rfl⟩ 13 rfl rfl rfl rfl (Nat.le_of_ble_eq_true rfl) ⟨Nat.le_of_ble_eq_true rfl, Nat.le_of_ble_eq_true rfl⟩ dX6_runFrom_14 (fun v ty' w' hp hk' => ?_)
        rcases hp with ⟨hC, rfl, rfl⟩ | ⟨hC, rfl, rfl⟩
        · skip
          replace hF := FE.pos hF hC
          show GW κ 4 0 0 (wX q d I A) 17 [(3, .int x9876), (2, .int x9877), (0, .ref (q 13)), (1, .int z1)] [.int 0]
          refine g_if_eq (tgt := 29) (a := 0) hk dX6_runFrom_17 (by decide) rfl (fun _ => ?_) (fun z9 => absurd (show (0 : Int) = (0 : Int) from by decide) z9)
          refine g_iload_n hk dX6_runFrom_29 rfl ?_
          have b9921l := Int32.le_toInt x9877
          have b9921h := Int32.toInt_lt x9877
          exact g_iret hk hR rfl ⟨x9877, hF, rfl, rfl⟩ dX6_runFrom_30
        · skip
          replace hF := FE.neg hF (fe_ne hC (by decide))
          show GW κ 4 0 0 (wX q d I A) 17 [(3, .int x9876), (2, .int x9877), (0, .ref (q 13)), (1, .int z1)] [.int 1]
          refine g_if_eq (tgt := 29) (a := 1) hk dX6_runFrom_17 (by decide) rfl (fun z9 => absurd z9 (show ¬ ((1 : Int) = (0 : Int)) from by decide)) (fun _ => ?_)
          have b9922l := Int32.le_toInt x9877
          have b9922h := Int32.toInt_lt x9877
          obtain ⟨y9923, ey9923⟩ : ∃ y : Int32, y = x9877 + Int32.ofInt 1 := ⟨_, rfl⟩
          replace hF := FE.lt hF ey9923
          refine g_iinc (v := y9923) (lv' := [(2, .int y9923), (3, .int x9876), (0, .ref (q 13)), (1, .int z1)]) hk 1 dX6_runFrom_20 rfl ey9923.symm (by decide) rfl ?_
          obtain ⟨y9924, ey9924⟩ : ∃ y : Int32, y = x9876 + Int32.ofInt 1 := ⟨_, rfl⟩
          replace hF := FE.lt hF ey9924
          have hy9924 : y9924.toInt = x9876.toInt + 1 := i32_add ey9924 rfl (by decide) (by omega) (by omega)
          refine g_iinc (v := y9924) (lv' := [(3, .int y9924), (2, .int y9923), (0, .ref (q 13)), (1, .int z1)]) hk 1 dX6_runFrom_23 rfl ey9924.symm (by decide) rfl ?_
          refine g_goto (tgt := 4) hk dX6_runFrom_26 (by decide) ?_
          exact g_lv (List.forall_mem_cons.mpr ⟨List.mem_of_getElem? (i := 0) rfl, (List.forall_mem_cons.mpr ⟨List.mem_of_getElem? (i := 1) rfl, (List.forall_mem_cons.mpr ⟨List.mem_of_getElem? (i := 2) rfl, (List.forall_mem_cons.mpr ⟨List.mem_of_getElem? (i := 3) rfl, (fun _ h => absurd h List.not_mem_nil)⟩)⟩)⟩)⟩) (ih9914 y9924 y9923 (by omega) (by omega) hF)
  have k9926 : (0 : Int32).toInt = 0 := rfl
  have b9927l := Int32.le_toInt z1
  have b9927h := Int32.toInt_lt z1
  have b9928 := Int32.le_toInt z1
  have b9929 := Int32.toInt_lt z1
  have n9925a : 161 - z1.toInt < (FU : Int) := by have := FU_eq; omega
  have n9925b : 0 < FU := by have := FU_eq; omega
  exact lp9910 FU z1 0 n9925a n9925b hF
noncomputable def bX6_longestRunFirst_7 (I : Nat → Int32) (A : Nat → Nat → Int32) : (Int32 → Int32 → Int32 → (Int32)) → Int32 → Int32 → Int32 → (Int32) := fun kk9976 x9869 x9870 x9871 => if (I 18).toInt ≤ x9869.toInt then x9871 else f_lt (fX6_runFrom I A x9869) fun y9980 => if y9980.toInt ≤ x9870.toInt then f_lt (x9869 + Int32.ofInt 1) fun y9984 => kk9976 y9984 x9870 x9871 else f_lt (x9869 + Int32.ofInt 1) fun y9985 => kk9976 y9985 y9980 x9869
noncomputable def fX6_longestRunFirst (I : Nat → Int32) (A : Nat → Nat → Int32) : Int32 := itr_iii (0 : Int32) (bX6_longestRunFirst_7 I A) FU 0 0 (-2)
def wo_k309_X6_longestRunFirst : List Cond := [Cond.fieldLink RX6 19 "WarpDesk$Series" "size" "I", Cond.methodLink RX6 46 yX6_runFrom, Cond.instanceMethod yX6_runFrom, Cond.selects RX6 yX6_runFrom yX6_runFrom, Cond.initialized RX6]
def wz_k309_X6_longestRunFirst : List Cond := .code yX6_longestRunFirst cX6_longestRunFirst 5 (some .int) :: (wo_k309_X6_longestRunFirst ++ (wsX60 ++ (wz_k310_X6_runFrom ++ ([] : List Cond))))
theorem zg_k309_X6_longestRunFirst : ∀ w ∈ wz_k309_X6_longestRunFirst, goodWord w = true := zg_cons rfl (zg_app (by decide +kernel) (zg_app zgU_wsX60 (zg_app zg_k310_X6_runFrom zg_nil)))
theorem zi_k309_X6_longestRunFirst : ∀ w ∈ wz_k309_X6_longestRunFirst, w ∈ lw_tbl := zi_cons zw_1320 (zi_app (zi_cons zw_282 (zi_cons zw_1321 (zi_cons zw_1322 (zi_cons zw_1323 (zi_cons zw_109 zi_nil))))) (zi_app inX6 (zi_app zi_k310_X6_runFrom zi_nil)))
set_option maxHeartbeats 4000000 in
set_option maxRecDepth 100000 in
theorem k309_X6_longestRunFirst (l : Launch) (D : va_G) (zt : Nat × Nat × Nat × (Nat → Nat) × (Nat → Nat)) (q : Nat → Nat) (d : Nat → ClassId) (I : Nat → Int32) (A : Nat → Nat → Int32) (hIv : IvX I A) : GM l D zt (tyX d) yX6_longestRunFirst wz_k309_X6_longestRunFirst ({ frames := 3, cells := 0, slots := 0, locals := 65 } : Room) [.ref (q 13)] (wX q d I A) (fun v _ w' => ∃ y0 : Int32, ((-2) ≤ y0.toInt) ∧ (y0.toInt ≤ 159) ∧ FE (fX6_longestRunFirst I A) y0 ∧ v = some (.int y0) ∧ w' = wX q d I A) 0 0 := by
  refine GM.of (cc := cX6_longestRunFirst) (maxL := 5) (ret := (some .int)) (own := RX6) (lv := [(0, .ref (q 13))]) (by decide) rfl rfl (Nat.le_of_ble_eq_true rfl) rfl (fun κ sz hk hR hN => ?_)
  have hin6 : ∀ w ∈ u_ws RX6 TX6 3, w ∈ wz_k309_X6_longestRunFirst := fun w h => (List.mem_cons_of_mem _ (List.mem_append_right _ (List.mem_append_left _ h)))
  have hF : FE (fX6_longestRunFirst I A) (fX6_longestRunFirst I A) := FE.rf
  refine g_bipush (v := (-2)) hk dX6_longestRunFirst_0 (by decide) ?_
  refine g_istore_n (lv' := [(1, .int (-2)), (0, .ref (q 13))]) hk dX6_longestRunFirst_2 (by decide) rfl ?_
  refine g_iconst (v := 0) hk dX6_longestRunFirst_3 (by decide) ?_
  refine g_istore_n (lv' := [(2, .int 0), (1, .int (-2)), (0, .ref (q 13))]) hk dX6_longestRunFirst_4 (by decide) rfl ?_
  refine g_iconst (v := 0) hk dX6_longestRunFirst_5 (by decide) ?_
  refine g_istore_n (lv' := [(3, .int 0), (2, .int 0), (1, .int (-2)), (0, .ref (q 13))]) hk dX6_longestRunFirst_6 (by decide) rfl ?_
  have lp9973 : ∀ (n9974 : Nat) (x9869 : Int32) (x9870 : Int32) (x9871 : Int32), (0 ≤ x9869.toInt) → (x9869.toInt ≤ 160) → (0 ≤ x9870.toInt) → ((-2) ≤ x9871.toInt) → (x9871.toInt ≤ 159) → (161 - x9869.toInt < (n9974 : Int)) → (0 < n9974) → (FE (fX6_longestRunFirst I A) (itr_iii (0 : Int32) (bX6_longestRunFirst_7 I A) n9974 x9869 x9870 x9871)) → GW κ 5 0 0 (wX q d I A) 7 [(3, .int x9869), (2, .int x9870), (1, .int x9871), (0, .ref (q 13))] [] := by
    intro n9974
    induction n9974 with
    | zero =>
      intro x9869 x9870 x9871 h9968 h9969 h9970 h9971 h9972 m9975 m9975z hF
      exact absurd m9975z (Nat.lt_irrefl 0)
    | succ n9974 ih9977 =>
      intro x9869 x9870 x9871 h9968 h9969 h9970 h9971 h9972 m9975 m9975z hF
      replace hF := FE.itr_iii hF
      refine g_iload_n hk dX6_longestRunFirst_7 rfl ?_
      refine g_aload_n hk dX6_longestRunFirst_8 rfl ?_
      refine gX_i18 (v := (I 18)) hk hin6 (List.mem_cons_of_mem _ (List.mem_append_left _ (List.mem_of_getElem? (i := 0) rfl))) dX6_longestRunFirst_9 rfl ?_
      have f9978 := IvX_f18 hIv
      refine g_icmp_ge (tgt := 39) (a := x9869.toInt) (b := (I 18).toInt) hk dX6_longestRunFirst_12 (by decide) rfl rfl (fun c9979 => ?_) (fun c9979 => ?_)
      · skip
        replace hF := FE.pos hF c9979
        refine g_iload_n hk dX6_longestRunFirst_39 rfl ?_
        exact g_iret hk hR rfl ⟨x9871, (by omega), (by omega), hF, rfl, rfl⟩ dX6_longestRunFirst_40
      · skip
        replace hF := FE.neg hF c9979
        refine g_aload_n hk dX6_longestRunFirst_15 rfl ?_
        refine g_iload_n hk dX6_longestRunFirst_16 rfl ?_
        refine g_callV (n := 1) hk (k310_X6_runFrom l D zt q d I A x9869 hIv) (SP.same _) (fun _ h => h) (gi_V (List.mem_cons_of_mem _ (List.mem_append_left _ (List.mem_of_getElem? (i := 1) rfl))) (List.mem_cons_of_mem _ (List.mem_append_left _ (List.mem_of_getElem? (i := 2) rfl))) (List.mem_cons_of_mem _ (List.mem_append_left _ (List.mem_of_getElem? (i := 3) rfl))) (List.mem_cons_of_mem _ (List.mem_append_left _ (List.mem_of_getElem? (i := 4) rfl))) (gi_sub (fun w h => (List.mem_cons_of_mem _ (List.mem_append_right _ (List.mem_append_right _ (List.mem_append_left _ h))))) zg_k310_X6_runFrom)) rfl rfl rfl (by decide +kernel) ⟨Nat.le_of_ble_eq_true rfl, Nat.le_of_ble_eq_true rfl⟩ 13 rfl rfl rfl rfl (Nat.le_of_ble_eq_true rfl) ⟨Nat.le_of_ble_eq_true rfl, Nat.le_of_ble_eq_true rfl⟩ dX6_longestRunFirst_17 (fun v ty' w' hp hk' => ?_)
        obtain ⟨y9980, hC, rfl, rfl⟩ := hp
        replace hF := FE.lt hF (fe_s hC)
        show GW κ 5 0 0 (wX q d I A) 20 [(3, .int x9869), (2, .int x9870), (1, .int x9871), (0, .ref (q 13))] [.int y9980]
        refine g_istore (lv' := [(4, .int y9980), (3, .int x9869), (2, .int x9870), (1, .int x9871), (0, .ref (q 13))]) hk dX6_longestRunFirst_20 (by decide) rfl ?_
        refine g_iload hk dX6_longestRunFirst_22 rfl ?_
        refine g_iload_n hk dX6_longestRunFirst_24 rfl ?_
        have b9981l := Int32.le_toInt y9980
        have b9981h := Int32.toInt_lt y9980
        have b9982l := Int32.le_toInt x9870
        have b9982h := Int32.toInt_lt x9870
        refine g_icmp_le (tgt := 33) (a := y9980.toInt) (b := x9870.toInt) hk dX6_longestRunFirst_25 (by decide) rfl rfl (fun c9983 => ?_) (fun c9983 => ?_)
        · skip
          replace hF := FE.pos hF c9983
          obtain ⟨y9984, ey9984⟩ : ∃ y : Int32, y = x9869 + Int32.ofInt 1 := ⟨_, rfl⟩
          replace hF := FE.lt hF ey9984
          have hy9984 : y9984.toInt = x9869.toInt + 1 := i32_add ey9984 rfl (by decide) (by omega) (by omega)
          refine g_iinc (v := y9984) (lv' := [(3, .int y9984), (4, .int y9980), (2, .int x9870), (1, .int x9871), (0, .ref (q 13))]) hk 1 dX6_longestRunFirst_33 rfl ey9984.symm (by decide) rfl ?_
          refine g_goto (tgt := 7) hk dX6_longestRunFirst_36 (by decide) ?_
          exact g_lv (List.forall_mem_cons.mpr ⟨List.mem_of_getElem? (i := 0) rfl, (List.forall_mem_cons.mpr ⟨List.mem_of_getElem? (i := 2) rfl, (List.forall_mem_cons.mpr ⟨List.mem_of_getElem? (i := 3) rfl, (List.forall_mem_cons.mpr ⟨List.mem_of_getElem? (i := 4) rfl, (fun _ h => absurd h List.not_mem_nil)⟩)⟩)⟩)⟩) (ih9977 y9984 x9870 x9871 (by omega) (by omega) (by omega) (by omega) (by omega) (by omega) (by omega) hF)
        · skip
          replace hF := FE.neg hF c9983
          refine g_iload hk dX6_longestRunFirst_28 rfl ?_
          refine g_istore_n (lv' := [(2, .int y9980), (4, .int y9980), (3, .int x9869), (1, .int x9871), (0, .ref (q 13))]) hk dX6_longestRunFirst_30 (by decide) rfl ?_
          refine g_iload_n hk dX6_longestRunFirst_31 rfl ?_
          refine g_istore_n (lv' := [(1, .int x9869), (2, .int y9980), (4, .int y9980), (3, .int x9869), (0, .ref (q 13))]) hk dX6_longestRunFirst_32 (by decide) rfl ?_
          obtain ⟨y9985, ey9985⟩ : ∃ y : Int32, y = x9869 + Int32.ofInt 1 := ⟨_, rfl⟩
          replace hF := FE.lt hF ey9985
          have hy9985 : y9985.toInt = x9869.toInt + 1 := i32_add ey9985 rfl (by decide) (by omega) (by omega)
          refine g_iinc (v := y9985) (lv' := [(3, .int y9985), (1, .int x9869), (2, .int y9980), (4, .int y9980), (0, .ref (q 13))]) hk 3 dX6_longestRunFirst_33 rfl ey9985.symm (by decide) rfl ?_
          refine g_goto (tgt := 7) hk dX6_longestRunFirst_36 (by decide) ?_
          exact g_lv (List.forall_mem_cons.mpr ⟨List.mem_of_getElem? (i := 0) rfl, (List.forall_mem_cons.mpr ⟨List.mem_of_getElem? (i := 2) rfl, (List.forall_mem_cons.mpr ⟨List.mem_of_getElem? (i := 1) rfl, (List.forall_mem_cons.mpr ⟨List.mem_of_getElem? (i := 4) rfl, (fun _ h => absurd h List.not_mem_nil)⟩)⟩)⟩)⟩) (ih9977 y9985 y9980 x9869 (by omega) (by omega) (by omega) (by omega) (by omega) (by omega) (by omega) hF)
  have k9987 : (0 : Int32).toInt = 0 := rfl
  have k9988 : ((-2) : Int32).toInt = (-2) := rfl
  have n9986a : 161 - 0 < (FU : Int) := by have := FU_eq; omega
  have n9986b : 0 < FU := by have := FU_eq; omega
  exact lp9973 FU 0 0 (-2) (by omega) (by omega) (by omega) (by omega) (by omega) n9986a n9986b hF
