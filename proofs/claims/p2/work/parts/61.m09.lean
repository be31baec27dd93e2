def wo_j216_X12_restore : List Cond := [Cond.methodLink RX12 244 yX12_in, Cond.static yX12_in, Cond.initialized RX12, Cond.fieldLink RX12 100 "WarpDeskModel" "isHeld" "[Z", Cond.fieldLink RX12 209 "WarpDeskModel" "undos" "I", Cond.fieldLink RX12 70 "WarpDeskModel" "now" "[I", Cond.fieldLink RX12 104 "WarpDeskModel" "heldRows" "[I"]
def wz_j216_X12_restore : List Cond := .code yX12_restore cX12_restore 3 (some .boolean) :: (wo_j216_X12_restore ++ (wsX120 ++ (wz_j145_X12_in ++ ([] : List Cond))))
theorem zg_j216_X12_restore : ∀ w ∈ wz_j216_X12_restore, goodWord w = true := zg_cons rfl (zg_app (by decide +kernel) (zg_app zgU_wsX120 (zg_app zg_j145_X12_in zg_nil)))
theorem zi_j216_X12_restore : ∀ w ∈ wz_j216_X12_restore, w ∈ lw_tbl := zi_cons zw_1942 (zi_app (zi_cons zw_1656 (zi_cons zw_1657 (zi_cons zw_115 (zi_cons zw_1431 (zi_cons zw_1422 (zi_cons zw_1413 (zi_cons zw_1432 zi_nil))))))) (zi_app inX12 (zi_app zi_j145_X12_in zi_nil)))
set_option maxHeartbeats 4000000 in
set_option maxRecDepth 100000 in
theorem j216_X12_restore (l : Launch) (D : va_G) (zt : Nat × Nat × Nat × (Nat → Nat) × (Nat → Nat)) (r : Nat → Nat) (g : Nat → ClassId) (I : Nat → Int32) (A : Nat → Nat → Int32) (L : Nat → Nat → Int64) (z1 : Int32) (hIv : IvM I A) : GM l D zt (tyM g) yX12_restore wz_j216_X12_restore ({ frames := 1, cells := 0, slots := 0, locals := 22 } : Room) [.ref (r 0), .int z1] (wM r g I A L) (fun v _ w' => ∃ (I' : Nat → Int32) (A' : Nat → Nat → Int32) (L' : Nat → Nat → Int64), Md [22] I I' ∧ Md [17] A A' ∧ IvM I' A' ∧ ∃ y0 : Int32, (0 ≤ y0.toInt) ∧ (y0.toInt ≤ 1) ∧ v = some (.int y0) ∧ w' = wM r g I' A' L') 0 0 := by
  refine GM.of (cc := cX12_restore) (maxL := 3) (ret := (some .boolean)) (own := RX12) (lv := [(0, .ref (r 0)), (1, .int z1)]) (by decide) rfl rfl (Nat.le_of_ble_eq_true rfl) rfl (fun κ sz hk hR hN => ?_)
  have hin12 : ∀ w ∈ u_ws RX12 TX12 55, w ∈ wz_j216_X12_restore := fun w h => (List.mem_cons_of_mem _ (List.mem_append_right _ (List.mem_append_left _ h)))
  refine g_iload_n hk dX12_restore_0 rfl ?_
  refine g_iconst (v := 0) hk dX12_restore_1 (by decide) ?_
  refine g_iconst (v := 2) hk dX12_restore_2 (by decide) ?_
  have k26897 : (0 : Int32).toInt = 0 := rfl
  have k26898 : (2 : Int32).toInt = 2 := rfl
  refine g_callS (n := 3) hk (j145_X12_in l D zt r g I A L z1 0 2 hIv) (SP.same _) (fun _ h => h) (gi_S (List.mem_cons_of_mem _ (List.mem_append_left _ (List.mem_of_getElem? (i := 0) rfl))) (List.mem_cons_of_mem _ (List.mem_append_left _ (List.mem_of_getElem? (i := 1) rfl))) (List.mem_cons_of_mem _ (List.mem_append_left _ (List.mem_of_getElem? (i := 2) rfl))) (gi_sub (fun w h => (List.mem_cons_of_mem _ (List.mem_append_right _ (List.mem_append_right _ (List.mem_append_left _ h))))) zg_j145_X12_in)) rfl rfl rfl (by decide +kernel) ⟨Nat.le_of_ble_eq_true rfl, Nat.le_of_ble_eq_true rfl⟩ rfl rfl (Nat.le_of_ble_eq_true rfl) ⟨Nat.le_of_ble_eq_true rfl, Nat.le_of_ble_eq_true rfl⟩ dX12_restore_3 (fun v ty' w' hp hk' => ?_)
  rcases hp with ⟨c26899, rfl, rfl⟩ | ⟨c26901, c26902, rfl, rfl⟩
  · skip
    have b26904l := Int32.le_toInt z1
    have b26904h := Int32.toInt_lt z1
    show GW κ 3 0 0 (wM r g I A L) 6 [(0, .ref (r 0)), (1, .int z1)] [.int 0]
    refine g_if_eq (tgt := 18) (a := 0) hk dX12_restore_6 (by decide) rfl (fun _ => ?_) (fun z9 => absurd (show (0 : Int) = (0 : Int) from by decide) z9)
    refine g_iconst (v := 0) hk dX12_restore_18 (by decide) ?_
    exact g_iret hk hR rfl ⟨I, A, L, (show Md [22] I I from Md.rf), (show Md [17] A A from Md.rf), hIv, 0, (by decide), (by decide), rfl, rfl⟩ dX12_restore_19
  · skip
    show GW κ 3 0 0 (wM r g I A L) 6 [(0, .ref (r 0)), (1, .int z1)] [.int 1]
    refine g_if_eq (tgt := 18) (a := 1) hk dX12_restore_6 (by decide) rfl (fun z9 => absurd z9 (show ¬ ((1 : Int) = (0 : Int)) from by decide)) (fun _ => ?_)
    refine g_aload_n hk dX12_restore_9 rfl ?_
    refine gM_r0_53 hk hin12 (List.mem_cons_of_mem _ (List.mem_append_left _ (List.mem_of_getElem? (i := 3) rfl))) dX12_restore_10 ?_
    refine g_iload_n hk dX12_restore_13 rfl ?_
    by_cases c26905 : z1.toInt = 0
    · have ec26905 : z1 = 0 := Int32.toInt_inj.mp c26905
      rw [ec26905]
      show GW κ 3 0 0 (wM r g I A L) 14 [(0, .ref (r 0)), (1, .int 0)] [.int 0, .ref (r 28)]
      refine lM_27 (v := (A 27 0)) hk (vp_in_iff.mpr ⟨by decide, by decide⟩) rfl dX12_restore_14 ?_
      have b26906l := Int32.le_toInt (A 27 0)
      have b26906h := Int32.toInt_lt (A 27 0)
      refine g_if_ne (tgt := 20) (a := (A 27 0).toInt) hk dX12_restore_15 (by decide) rfl (fun c26907 => ?_) (fun c26907 => ?_)
      · skip
        refine g_iconst (v := 0) hk dX12_restore_20 (by decide) ?_
        refine g_istore_n (lv' := [(2, .int 0), (0, .ref (r 0)), (1, .int 0)]) hk dX12_restore_21 (by decide) rfl ?_
        have lp26908 : ∀ (n26910 k26909 : Nat), k26909 + n26910 = 165 → GW κ 3 0 0 (wM r g I (up2 A 17 (cpo (fun k => A 28 (165 * 0 + k)) (A 17) 0 k26909)) L) 22 [(2, .int (nI k26909)), (0, .ref (r 0)), (1, .int 0)] [] := by
          intro n26910
          induction n26910 with
          | zero =>
            intro k26909 hk26909
            obtain rfl : k26909 = 165 := by omega
            show GW κ 3 0 0 (wM r g I (up2 A 17 (cpo (fun k => A 28 (165 * 0 + k)) (A 17) 0 165)) L) 22 [(2, .int 165), (0, .ref (r 0)), (1, .int 0)] []
            refine g_iload_n hk dX12_restore_22 rfl ?_
            refine g_sipush (v := 165) hk dX12_restore_23 (by decide) ?_
            refine g_icmp_ge (tgt := 53) (a := 165) (b := 165) hk dX12_restore_26 (by decide) rfl rfl (fun _ => ?_) (fun z9 => absurd (show (165 : Int) ≤ (165 : Int) from by decide) z9)
            refine g_aload_n hk dX12_restore_53 rfl ?_
            refine g_iconst (v := 0) hk dX12_restore_54 (by decide) ?_
            refine pM_i22 hk hin12 (List.mem_cons_of_mem _ (List.mem_append_left _ (List.mem_of_getElem? (i := 4) rfl))) dX12_restore_55 ?_
            refine g_iconst (v := 1) hk dX12_restore_58 (by decide) ?_
            have hw26913 := (IvM_hh (I := I) (A := A) hIv) 0 (by decide) (by omega)
            have g26914 : 0 ≤ (A 28 (165 * 0 + 0)).toInt ∧ (A 28 (165 * 0 + 0)).toInt ≤ 160 := hw26913.1
            have g26915 : 1 ≤ (A 28 (165 * 0 + 164)).toInt := hw26913.2
            have g26916 := Int32.toInt_lt (A 28 (165 * 0 + 164))
            exact g_iret hk hR rfl ⟨(upd I 22 0), (up2 A 17 (cpo (fun k => A 28 (165 * 0 + k)) (A 17) 0 165)), L, (show Md [22] I (upd I 22 0) from (Md.up Md.rf rfl)), (show Md [17] A (up2 A 17 (cpo (fun k => A 28 (165 * 0 + k)) (A 17) 0 165)) from (Md.up2 Md.rf rfl)), ⟨(IvM_f1 (I := I) (A := A) hIv), (IvM_f2 (I := I) (A := A) hIv), (IvM_f3 (I := I) (A := A) hIv), (IvM_f4 (I := I) (A := A) hIv), (IvM_f6 (I := I) (A := A) hIv), (IvM_f8 (I := I) (A := A) hIv), (IvM_f15 (I := I) (A := A) hIv), (IvM_f16 (I := I) (A := A) hIv), (IvM_f17 (I := I) (A := A) hIv), (IvM_f18 (I := I) (A := A) hIv), (show 0 ≤ (0 : Int32).toInt ∧ (0 : Int32).toInt ≤ 40 from ⟨by decide, by decide⟩), (IvM_f23 (I := I) (A := A) hIv), (IvM_f24 (I := I) (A := A) hIv), (IvM_a11 (I := I) (A := A) hIv), (IvM_a26 (I := I) (A := A) hIv), (IvM_s8_0 (I := I) (A := A) hIv), (IvM_s8_1 (I := I) (A := A) hIv), (IvM_s10_0 (I := I) (A := A) hIv), (IvM_s10_1 (I := I) (A := A) hIv), (show 0 ≤ ((up2 A 17 (cpo (fun k => A 28 (165 * 0 + k)) (A 17) 0 165)) 17 0).toInt ∧ ((up2 A 17 (cpo (fun k => A 28 (165 * 0 + k)) (A 17) 0 165)) 17 0).toInt ≤ 160 from by rw [show (up2 A 17 (cpo (fun k => A 28 (165 * 0 + k)) (A 17) 0 165)) 17 0 = (A 28 (165 * 0 + 0)) from rfl]; exact ⟨by omega, by omega⟩), (show 1 ≤ ((up2 A 17 (cpo (fun k => A 28 (165 * 0 + k)) (A 17) 0 165)) 17 164).toInt ∧ ((up2 A 17 (cpo (fun k => A 28 (165 * 0 + k)) (A 17) 0 165)) 17 164).toInt ≤ 2147483647 from by rw [show (up2 A 17 (cpo (fun k => A 28 (165 * 0 + k)) (A 17) 0 165)) 17 164 = (A 28 (165 * 0 + 164)) from rfl]; exact ⟨by omega, by omega⟩), (IvM_lv (I := I) (A := A) hIv), (IvM_sd (I := I) (A := A) hIv), (IvM_nq (I := I) (A := A) hIv), (fun j hj => absurd (show (j : Int) < (0 : Int32).toInt from hj) (by have : (0 : Int32).toInt = 0 := rfl; omega)), (IvM_hh (I := I) (A := A) hIv), trivial⟩, 1, (by decide), (by decide), rfl, rfl⟩ dX12_restore_59
          | succ n26910 ih26912 =>
            intro k26909 hk26909
            obtain ⟨x26911, ex26911⟩ : ∃ x : Int32, x = nI k26909 := ⟨_, rfl⟩
            have hx26911 : x26911.toInt = (k26909 : Int) := by rw [ex26911]; exact nI_toInt (by omega)
            have cx26911 : x26911.toNatClampNeg = k26909 := cl_nat hx26911
            rw [← ex26911]
            refine g_iload_n hk dX12_restore_22 rfl ?_
            refine g_sipush (v := 165) hk dX12_restore_23 (by decide) ?_
            refine g_icmp_ge (tgt := 53) (a := x26911.toInt) (b := 165) hk dX12_restore_26 (by decide) rfl rfl (fun z9 => absurd z9 (show ¬ (165 ≤ x26911.toInt) from by omega)) (fun _ => ?_)
            refine g_aload_n hk dX12_restore_29 rfl ?_
            refine gM_r0_35 hk hin12 (List.mem_cons_of_mem _ (List.mem_append_left _ (List.mem_of_getElem? (i := 5) rfl))) dX12_restore_30 ?_
            refine g_iload_n hk dX12_restore_33 rfl ?_
            refine g_aload_n hk dX12_restore_34 rfl ?_
            refine gM_r0_54 hk hin12 (List.mem_cons_of_mem _ (List.mem_append_left _ (List.mem_of_getElem? (i := 6) rfl))) dX12_restore_35 ?_
            refine g_sipush (v := 165) hk dX12_restore_38 (by decide) ?_
            refine g_iload_n hk dX12_restore_41 rfl ?_
            refine g_imul hk dX12_restore_42 ?_
            refine g_norm (v := 0) (by decide) ?_
            refine g_iload_n hk dX12_restore_43 rfl ?_
            refine g_iadd hk dX12_restore_44 ?_
            refine g_topi (fun y26917 ey26917 => ?_)
            have hy26917 : y26917.toInt = 0 + x26911.toInt := i32_add ey26917 rfl rfl (by omega) (by omega)
            refine lM_28 (v := (A 28 y26917.toNatClampNeg)) hk (vp_in_iff.mpr ⟨by omega, by omega⟩) rfl dX12_restore_45 ?_
            refine sM_17 (j := x26911.toNatClampNeg) hk (vp_in_iff.mpr ⟨by omega, by omega⟩) rfl dX12_restore_46 ?_
            obtain ⟨y26918, ey26918⟩ : ∃ y : Int32, y = x26911 + Int32.ofInt 1 := ⟨_, rfl⟩
            have hy26918 : y26918.toInt = x26911.toInt + 1 := i32_add ey26918 rfl (by decide) (by omega) (by omega)
            refine g_iinc (v := y26918) (lv' := [(2, .int y26918), (0, .ref (r 0)), (1, .int 0)]) hk 0 dX12_restore_47 rfl ey26918.symm (by decide) rfl ?_
            refine g_goto (tgt := 22) hk dX12_restore_50 (by decide) ?_
            have q26919 := cl_int (y := y26917) (by omega)
            have q26920 := cl_int (y := x26911) (by omega)
            have eW : (up3 (up2 A 17 (cpo (fun k => A 28 (165 * 0 + k)) (A 17) 0 k26909)) 17 (x26911.toNatClampNeg) (A 28 y26917.toNatClampNeg)) = (up2 A 17 (cpo (fun k => A 28 (165 * 0 + k)) (A 17) 0 (k26909 + 1))) := cpo_st (by omega) (show (A 28 y26917.toNatClampNeg) = (A 28 (165 * 0 + k26909)) from by rw [show y26917.toNatClampNeg = 165 * 0 + k26909 from by omega])
            have fy : y26918 = nI (k26909 + 1) := nI_of_toInt (by omega) (by omega)
            rw [eW, fy]
            exact g_lv (List.forall_mem_cons.mpr ⟨List.mem_of_getElem? (i := 0) rfl, (List.forall_mem_cons.mpr ⟨List.mem_of_getElem? (i := 1) rfl, (List.forall_mem_cons.mpr ⟨List.mem_of_getElem? (i := 2) rfl, (fun _ h => absurd h List.not_mem_nil)⟩)⟩)⟩) (ih26912 (k26909 + 1) (by omega))
        have lp26908e := lp26908 165 0 (by omega)
        rw [cpo_0] at lp26908e
        exact lp26908e
      · skip
        refine g_iconst (v := 0) hk dX12_restore_18 (by decide) ?_
        exact g_iret hk hR rfl ⟨I, A, L, (show Md [22] I I from Md.rf), (show Md [17] A A from Md.rf), hIv, 0, (by decide), (by decide), rfl, rfl⟩ dX12_restore_19
    by_cases c26921 : z1.toInt = 1
    · have ec26921 : z1 = 1 := Int32.toInt_inj.mp c26921
      rw [ec26921]
      show GW κ 3 0 0 (wM r g I A L) 14 [(0, .ref (r 0)), (1, .int 1)] [.int 1, .ref (r 28)]
      refine lM_27 (v := (A 27 1)) hk (vp_in_iff.mpr ⟨by decide, by decide⟩) rfl dX12_restore_14 ?_
      have b26922l := Int32.le_toInt (A 27 1)
      have b26922h := Int32.toInt_lt (A 27 1)
      refine g_if_ne (tgt := 20) (a := (A 27 1).toInt) hk dX12_restore_15 (by decide) rfl (fun c26923 => ?_) (fun c26923 => ?_)
      · skip
        refine g_iconst (v := 0) hk dX12_restore_20 (by decide) ?_
        refine g_istore_n (lv' := [(2, .int 0), (0, .ref (r 0)), (1, .int 1)]) hk dX12_restore_21 (by decide) rfl ?_
        have lp26924 : ∀ (n26926 k26925 : Nat), k26925 + n26926 = 165 → GW κ 3 0 0 (wM r g I (up2 A 17 (cpo (fun k => A 28 (165 * 1 + k)) (A 17) 0 k26925)) L) 22 [(2, .int (nI k26925)), (0, .ref (r 0)), (1, .int 1)] [] := by
          intro n26926
          induction n26926 with
          | zero =>
            intro k26925 hk26925
            obtain rfl : k26925 = 165 := by omega
            show GW κ 3 0 0 (wM r g I (up2 A 17 (cpo (fun k => A 28 (165 * 1 + k)) (A 17) 0 165)) L) 22 [(2, .int 165), (0, .ref (r 0)), (1, .int 1)] []
            refine g_iload_n hk dX12_restore_22 rfl ?_
            refine g_sipush (v := 165) hk dX12_restore_23 (by decide) ?_
            refine g_icmp_ge (tgt := 53) (a := 165) (b := 165) hk dX12_restore_26 (by decide) rfl rfl (fun _ => ?_) (fun z9 => absurd (show (165 : Int) ≤ (165 : Int) from by decide) z9)
            refine g_aload_n hk dX12_restore_53 rfl ?_
            refine g_iconst (v := 0) hk dX12_restore_54 (by decide) ?_
            refine pM_i22 hk hin12 (List.mem_cons_of_mem _ (List.mem_append_left _ (List.mem_of_getElem? (i := 4) rfl))) dX12_restore_55 ?_
            refine g_iconst (v := 1) hk dX12_restore_58 (by decide) ?_
            have hw26929 := (IvM_hh (I := I) (A := A) hIv) 1 (by decide) (by omega)
            have g26930 : 0 ≤ (A 28 (165 * 1 + 0)).toInt ∧ (A 28 (165 * 1 + 0)).toInt ≤ 160 := hw26929.1
            have g26931 : 1 ≤ (A 28 (165 * 1 + 164)).toInt := hw26929.2
            have g26932 := Int32.toInt_lt (A 28 (165 * 1 + 164))
            exact g_iret hk hR rfl ⟨(upd I 22 0), (up2 A 17 (cpo (fun k => A 28 (165 * 1 + k)) (A 17) 0 165)), L, (show Md [22] I (upd I 22 0) from (Md.up Md.rf rfl)), (show Md [17] A (up2 A 17 (cpo (fun k => A 28 (165 * 1 + k)) (A 17) 0 165)) from (Md.up2 Md.rf rfl)), ⟨(IvM_f1 (I := I) (A := A) hIv), (IvM_f2 (I := I) (A := A) hIv), (IvM_f3 (I := I) (A := A) hIv), (IvM_f4 (I := I) (A := A) hIv), (IvM_f6 (I := I) (A := A) hIv), (IvM_f8 (I := I) (A := A) hIv), (IvM_f15 (I := I) (A := A) hIv), (IvM_f16 (I := I) (A := A) hIv), (IvM_f17 (I := I) (A := A) hIv), (IvM_f18 (I := I) (A := A) hIv), (show 0 ≤ (0 : Int32).toInt ∧ (0 : Int32).toInt ≤ 40 from ⟨by decide, by decide⟩), (IvM_f23 (I := I) (A := A) hIv), (IvM_f24 (I := I) (A := A) hIv), (IvM_a11 (I := I) (A := A) hIv), (IvM_a26 (I := I) (A := A) hIv), (IvM_s8_0 (I := I) (A := A) hIv), (IvM_s8_1 (I := I) (A := A) hIv), (IvM_s10_0 (I := I) (A := A) hIv), (IvM_s10_1 (I := I) (A := A) hIv), (show 0 ≤ ((up2 A 17 (cpo (fun k => A 28 (165 * 1 + k)) (A 17) 0 165)) 17 0).toInt ∧ ((up2 A 17 (cpo (fun k => A 28 (165 * 1 + k)) (A 17) 0 165)) 17 0).toInt ≤ 160 from by rw [show (up2 A 17 (cpo (fun k => A 28 (165 * 1 + k)) (A 17) 0 165)) 17 0 = (A 28 (165 * 1 + 0)) from rfl]; exact ⟨by omega, by omega⟩), (show 1 ≤ ((up2 A 17 (cpo (fun k => A 28 (165 * 1 + k)) (A 17) 0 165)) 17 164).toInt ∧ ((up2 A 17 (cpo (fun k => A 28 (165 * 1 + k)) (A 17) 0 165)) 17 164).toInt ≤ 2147483647 from by rw [show (up2 A 17 (cpo (fun k => A 28 (165 * 1 + k)) (A 17) 0 165)) 17 164 = (A 28 (165 * 1 + 164)) from rfl]; exact ⟨by omega, by omega⟩), (IvM_lv (I := I) (A := A) hIv), (IvM_sd (I := I) (A := A) hIv), (IvM_nq (I := I) (A := A) hIv), (fun j hj => absurd (show (j : Int) < (0 : Int32).toInt from hj) (by have : (0 : Int32).toInt = 0 := rfl; omega)), (IvM_hh (I := I) (A := A) hIv), trivial⟩, 1, (by decide), (by decide), rfl, rfl⟩ dX12_restore_59
          | succ n26926 ih26928 =>
            intro k26925 hk26925
            obtain ⟨x26927, ex26927⟩ : ∃ x : Int32, x = nI k26925 := ⟨_, rfl⟩
            have hx26927 : x26927.toInt = (k26925 : Int) := by rw [ex26927]; exact nI_toInt (by omega)
            have cx26927 : x26927.toNatClampNeg = k26925 := cl_nat hx26927
            rw [← ex26927]
            refine g_iload_n hk dX12_restore_22 rfl ?_
            refine g_sipush (v := 165) hk dX12_restore_23 (by decide) ?_
            refine g_icmp_ge (tgt := 53) (a := x26927.toInt) (b := 165) hk dX12_restore_26 (by decide) rfl rfl (fun z9 => absurd z9 (show ¬ (165 ≤ x26927.toInt) from by omega)) (fun _ => ?_)
            refine g_aload_n hk dX12_restore_29 rfl ?_
            refine gM_r0_35 hk hin12 (List.mem_cons_of_mem _ (List.mem_append_left _ (List.mem_of_getElem? (i := 5) rfl))) dX12_restore_30 ?_
            refine g_iload_n hk dX12_restore_33 rfl ?_
            refine g_aload_n hk dX12_restore_34 rfl ?_
            refine gM_r0_54 hk hin12 (List.mem_cons_of_mem _ (List.mem_append_left _ (List.mem_of_getElem? (i := 6) rfl))) dX12_restore_35 ?_
            refine g_sipush (v := 165) hk dX12_restore_38 (by decide) ?_
            refine g_iload_n hk dX12_restore_41 rfl ?_
            refine g_imul hk dX12_restore_42 ?_
            refine g_norm (v := 165) (by decide) ?_
            refine g_iload_n hk dX12_restore_43 rfl ?_
            refine g_iadd hk dX12_restore_44 ?_
            refine g_topi (fun y26933 ey26933 => ?_)
            have hy26933 : y26933.toInt = 165 + x26927.toInt := i32_add ey26933 rfl rfl (by omega) (by omega)
            refine lM_28 (v := (A 28 y26933.toNatClampNeg)) hk (vp_in_iff.mpr ⟨by omega, by omega⟩) rfl dX12_restore_45 ?_
            refine sM_17 (j := x26927.toNatClampNeg) hk (vp_in_iff.mpr ⟨by omega, by omega⟩) rfl dX12_restore_46 ?_
            obtain ⟨y26934, ey26934⟩ : ∃ y : Int32, y = x26927 + Int32.ofInt 1 := ⟨_, rfl⟩
            have hy26934 : y26934.toInt = x26927.toInt + 1 := i32_add ey26934 rfl (by decide) (by omega) (by omega)
            refine g_iinc (v := y26934) (lv' := [(2, .int y26934), (0, .ref (r 0)), (1, .int 1)]) hk 0 dX12_restore_47 rfl ey26934.symm (by decide) rfl ?_
            refine g_goto (tgt := 22) hk dX12_restore_50 (by decide) ?_
            have q26935 := cl_int (y := y26933) (by omega)
            have q26936 := cl_int (y := x26927) (by omega)
            have eW : (up3 (up2 A 17 (cpo (fun k => A 28 (165 * 1 + k)) (A 17) 0 k26925)) 17 (x26927.toNatClampNeg) (A 28 y26933.toNatClampNeg)) = (up2 A 17 (cpo (fun k => A 28 (165 * 1 + k)) (A 17) 0 (k26925 + 1))) := cpo_st (by omega) (show (A 28 y26933.toNatClampNeg) = (A 28 (165 * 1 + k26925)) from by rw [show y26933.toNatClampNeg = 165 * 1 + k26925 from by omega])
            have fy : y26934 = nI (k26925 + 1) := nI_of_toInt (by omega) (by omega)
            rw [eW, fy]
            exact g_lv (List.forall_mem_cons.mpr ⟨List.mem_of_getElem? (i := 0) rfl, (List.forall_mem_cons.mpr ⟨List.mem_of_getElem? (i := 1) rfl, (List.forall_mem_cons.mpr ⟨List.mem_of_getElem? (i := 2) rfl, (fun _ h => absurd h List.not_mem_nil)⟩)⟩)⟩) (ih26928 (k26925 + 1) (by omega))
        have lp26924e := lp26924 165 0 (by omega)
        rw [cpo_0] at lp26924e
        exact lp26924e
      · skip
        refine g_iconst (v := 0) hk dX12_restore_18 (by decide) ?_
        exact g_iret hk hR rfl ⟨I, A, L, (show Md [22] I I from Md.rf), (show Md [17] A A from Md.rf), hIv, 0, (by decide), (by decide), rfl, rfl⟩ dX12_restore_19
    by_cases c26937 : z1.toInt = 2
    · have ec26937 : z1 = 2 := Int32.toInt_inj.mp c26937
      rw [ec26937]
      show GW κ 3 0 0 (wM r g I A L) 14 [(0, .ref (r 0)), (1, .int 2)] [.int 2, .ref (r 28)]
      refine lM_27 (v := (A 27 2)) hk (vp_in_iff.mpr ⟨by decide, by decide⟩) rfl dX12_restore_14 ?_
      have b26938l := Int32.le_toInt (A 27 2)
      have b26938h := Int32.toInt_lt (A 27 2)
      refine g_if_ne (tgt := 20) (a := (A 27 2).toInt) hk dX12_restore_15 (by decide) rfl (fun c26939 => ?_) (fun c26939 => ?_)
      · skip
        refine g_iconst (v := 0) hk dX12_restore_20 (by decide) ?_
        refine g_istore_n (lv' := [(2, .int 0), (0, .ref (r 0)), (1, .int 2)]) hk dX12_restore_21 (by decide) rfl ?_
        have lp26940 : ∀ (n26942 k26941 : Nat), k26941 + n26942 = 165 → GW κ 3 0 0 (wM r g I (up2 A 17 (cpo (fun k => A 28 (165 * 2 + k)) (A 17) 0 k26941)) L) 22 [(2, .int (nI k26941)), (0, .ref (r 0)), (1, .int 2)] [] := by
          intro n26942
          induction n26942 with
          | zero =>
            intro k26941 hk26941
            obtain rfl : k26941 = 165 := by omega
            show GW κ 3 0 0 (wM r g I (up2 A 17 (cpo (fun k => A 28 (165 * 2 + k)) (A 17) 0 165)) L) 22 [(2, .int 165), (0, .ref (r 0)), (1, .int 2)] []
            refine g_iload_n hk dX12_restore_22 rfl ?_
            refine g_sipush (v := 165) hk dX12_restore_23 (by decide) ?_
            refine g_icmp_ge (tgt := 53) (a := 165) (b := 165) hk dX12_restore_26 (by decide) rfl rfl (fun _ => ?_) (fun z9 => absurd (show (165 : Int) ≤ (165 : Int) from by decide) z9)
            refine g_aload_n hk dX12_restore_53 rfl ?_
            refine g_iconst (v := 0) hk dX12_restore_54 (by decide) ?_
            refine pM_i22 hk hin12 (List.mem_cons_of_mem _ (List.mem_append_left _ (List.mem_of_getElem? (i := 4) rfl))) dX12_restore_55 ?_
            refine g_iconst (v := 1) hk dX12_restore_58 (by decide) ?_
            have hw26945 := (IvM_hh (I := I) (A := A) hIv) 2 (by decide) (by omega)
            have g26946 : 0 ≤ (A 28 (165 * 2 + 0)).toInt ∧ (A 28 (165 * 2 + 0)).toInt ≤ 160 := hw26945.1
            have g26947 : 1 ≤ (A 28 (165 * 2 + 164)).toInt := hw26945.2
            have g26948 := Int32.toInt_lt (A 28 (165 * 2 + 164))
            exact g_iret hk hR rfl ⟨(upd I 22 0), (up2 A 17 (cpo (fun k => A 28 (165 * 2 + k)) (A 17) 0 165)), L, (show Md [22] I (upd I 22 0) from (Md.up Md.rf rfl)), (show Md [17] A (up2 A 17 (cpo (fun k => A 28 (165 * 2 + k)) (A 17) 0 165)) from (Md.up2 Md.rf rfl)), ⟨(IvM_f1 (I := I) (A := A) hIv), (IvM_f2 (I := I) (A := A) hIv), (IvM_f3 (I := I) (A := A) hIv), (IvM_f4 (I := I) (A := A) hIv), (IvM_f6 (I := I) (A := A) hIv), (IvM_f8 (I := I) (A := A) hIv), (IvM_f15 (I := I) (A := A) hIv), (IvM_f16 (I := I) (A := A) hIv), (IvM_f17 (I := I) (A := A) hIv), (IvM_f18 (I := I) (A := A) hIv), (show 0 ≤ (0 : Int32).toInt ∧ (0 : Int32).toInt ≤ 40 from ⟨by decide, by decide⟩), (IvM_f23 (I := I) (A := A) hIv), (IvM_f24 (I := I) (A := A) hIv), (IvM_a11 (I := I) (A := A) hIv), (IvM_a26 (I := I) (A := A) hIv), (IvM_s8_0 (I := I) (A := A) hIv), (IvM_s8_1 (I := I) (A := A) hIv), (IvM_s10_0 (I := I) (A := A) hIv), (IvM_s10_1 (I := I) (A := A) hIv), (show 0 ≤ ((up2 A 17 (cpo (fun k => A 28 (165 * 2 + k)) (A 17) 0 165)) 17 0).toInt ∧ ((up2 A 17 (cpo (fun k => A 28 (165 * 2 + k)) (A 17) 0 165)) 17 0).toInt ≤ 160 from by rw [show (up2 A 17 (cpo (fun k => A 28 (165 * 2 + k)) (A 17) 0 165)) 17 0 = (A 28 (165 * 2 + 0)) from rfl]; exact ⟨by omega, by omega⟩), (show 1 ≤ ((up2 A 17 (cpo (fun k => A 28 (165 * 2 + k)) (A 17) 0 165)) 17 164).toInt ∧ ((up2 A 17 (cpo (fun k => A 28 (165 * 2 + k)) (A 17) 0 165)) 17 164).toInt ≤ 2147483647 from by rw [show (up2 A 17 (cpo (fun k => A 28 (165 * 2 + k)) (A 17) 0 165)) 17 164 = (A 28 (165 * 2 + 164)) from rfl]; exact ⟨by omega, by omega⟩), (IvM_lv (I := I) (A := A) hIv), (IvM_sd (I := I) (A := A) hIv), (IvM_nq (I := I) (A := A) hIv), (fun j hj => absurd (show (j : Int) < (0 : Int32).toInt from hj) (by have : (0 : Int32).toInt = 0 := rfl; omega)), (IvM_hh (I := I) (A := A) hIv), trivial⟩, 1, (by decide), (by decide), rfl, rfl⟩ dX12_restore_59
          | succ n26942 ih26944 =>
            intro k26941 hk26941
            obtain ⟨x26943, ex26943⟩ : ∃ x : Int32, x = nI k26941 := ⟨_, rfl⟩
            have hx26943 : x26943.toInt = (k26941 : Int) := by rw [ex26943]; exact nI_toInt (by omega)
            have cx26943 : x26943.toNatClampNeg = k26941 := cl_nat hx26943
            rw [← ex26943]
            refine g_iload_n hk dX12_restore_22 rfl ?_
            refine g_sipush (v := 165) hk dX12_restore_23 (by decide) ?_
            refine g_icmp_ge (tgt := 53) (a := x26943.toInt) (b := 165) hk dX12_restore_26 (by decide) rfl rfl (fun z9 => absurd z9 (show ¬ (165 ≤ x26943.toInt) from by omega)) (fun _ => ?_)
            refine g_aload_n hk dX12_restore_29 rfl ?_
            refine gM_r0_35 hk hin12 (List.mem_cons_of_mem _ (List.mem_append_left _ (List.mem_of_getElem? (i := 5) rfl))) dX12_restore_30 ?_
            refine g_iload_n hk dX12_restore_33 rfl ?_
            refine g_aload_n hk dX12_restore_34 rfl ?_
            refine gM_r0_54 hk hin12 (List.mem_cons_of_mem _ (List.mem_append_left _ (List.mem_of_getElem? (i := 6) rfl))) dX12_restore_35 ?_
            refine g_sipush (v := 165) hk dX12_restore_38 (by decide) ?_
            refine g_iload_n hk dX12_restore_41 rfl ?_
            refine g_imul hk dX12_restore_42 ?_
            refine g_norm (v := 330) (by decide) ?_
            refine g_iload_n hk dX12_restore_43 rfl ?_
            refine g_iadd hk dX12_restore_44 ?_
            refine g_topi (fun y26949 ey26949 => ?_)
            have hy26949 : y26949.toInt = 330 + x26943.toInt := i32_add ey26949 rfl rfl (by omega) (by omega)
            refine lM_28 (v := (A 28 y26949.toNatClampNeg)) hk (vp_in_iff.mpr ⟨by omega, by omega⟩) rfl dX12_restore_45 ?_
            refine sM_17 (j := x26943.toNatClampNeg) hk (vp_in_iff.mpr ⟨by omega, by omega⟩) rfl dX12_restore_46 ?_
            obtain ⟨y26950, ey26950⟩ : ∃ y : Int32, y = x26943 + Int32.ofInt 1 := ⟨_, rfl⟩
            have hy26950 : y26950.toInt = x26943.toInt + 1 := i32_add ey26950 rfl (by decide) (by omega) (by omega)
            refine g_iinc (v := y26950) (lv' := [(2, .int y26950), (0, .ref (r 0)), (1, .int 2)]) hk 0 dX12_restore_47 rfl ey26950.symm (by decide) rfl ?_
            refine g_goto (tgt := 22) hk dX12_restore_50 (by decide) ?_
            have q26951 := cl_int (y := y26949) (by omega)
            have q26952 := cl_int (y := x26943) (by omega)
            have eW : (up3 (up2 A 17 (cpo (fun k => A 28 (165 * 2 + k)) (A 17) 0 k26941)) 17 (x26943.toNatClampNeg) (A 28 y26949.toNatClampNeg)) = (up2 A 17 (cpo (fun k => A 28 (165 * 2 + k)) (A 17) 0 (k26941 + 1))) := cpo_st (by omega) (show (A 28 y26949.toNatClampNeg) = (A 28 (165 * 2 + k26941)) from by rw [show y26949.toNatClampNeg = 165 * 2 + k26941 from by omega])
            have fy : y26950 = nI (k26941 + 1) := nI_of_toInt (by omega) (by omega)
            rw [eW, fy]
            exact g_lv (List.forall_mem_cons.mpr ⟨List.mem_of_getElem? (i := 0) rfl, (List.forall_mem_cons.mpr ⟨List.mem_of_getElem? (i := 1) rfl, (List.forall_mem_cons.mpr ⟨List.mem_of_getElem? (i := 2) rfl, (fun _ h => absurd h List.not_mem_nil)⟩)⟩)⟩) (ih26944 (k26941 + 1) (by omega))
        have lp26940e := lp26940 165 0 (by omega)
        rw [cpo_0] at lp26940e
        exact lp26940e
      · skip
        refine g_iconst (v := 0) hk dX12_restore_18 (by decide) ?_
        exact g_iret hk hR rfl ⟨I, A, L, (show Md [22] I I from Md.rf), (show Md [17] A A from Md.rf), hIv, 0, (by decide), (by decide), rfl, rfl⟩ dX12_restore_19
    exfalso; omega
def wo_j218_X12_gaps : List Cond := [Cond.fieldLink RX12 70 "WarpDeskModel" "now" "[I", Cond.methodLink RX12 320 yX12_isThere, Cond.instanceMethod yX12_isThere, Cond.selects RX12 yX12_isThere yX12_isThere, Cond.initialized RX12]
def wz_j218_X12_gaps : List Cond := .code yX12_gaps cX12_gaps 3 (some .int) :: (wo_j218_X12_gaps ++ (wsX120 ++ (wz_j143_X12_isThere ++ ([] : List Cond))))
theorem zg_j218_X12_gaps : ∀ w ∈ wz_j218_X12_gaps, goodWord w = true := zg_cons rfl (zg_app (by decide +kernel) (zg_app zgU_wsX120 (zg_app zg_j143_X12_isThere zg_nil)))
theorem zi_j218_X12_gaps : ∀ w ∈ wz_j218_X12_gaps, w ∈ lw_tbl := zi_cons zw_1950 (zi_app (zi_cons zw_1413 (zi_cons zw_1648 (zi_cons zw_1650 (zi_cons zw_65 (zi_cons zw_115 zi_nil))))) (zi_app inX12 (zi_app zi_j143_X12_isThere zi_nil)))
set_option maxHeartbeats 4000000 in
set_option maxRecDepth 100000 in
theorem j218_X12_gaps (l : Launch) (D : va_G) (zt : Nat × Nat × Nat × (Nat → Nat) × (Nat → Nat)) (r : Nat → Nat) (g : Nat → ClassId) (I : Nat → Int32) (A : Nat → Nat → Int32) (L : Nat → Nat → Int64) (hIv : IvM I A) : GM l D zt (tyM g) yX12_gaps wz_j218_X12_gaps ({ frames := 3, cells := 0, slots := 0, locals := 64 } : Room) [.ref (r 0)] (wM r g I A L) (fun v _ w' => ∃ y0 : Int32, v = some (.int y0) ∧ w' = wM r g I A L) 0 0 := by
  refine GM.of (cc := cX12_gaps) (maxL := 3) (ret := (some .int)) (own := RX12) (lv := [(0, .ref (r 0))]) (by decide) rfl rfl (Nat.le_of_ble_eq_true rfl) rfl (fun κ sz hk hR hN => ?_)
  have hin12 : ∀ w ∈ u_ws RX12 TX12 55, w ∈ wz_j218_X12_gaps := fun w h => (List.mem_cons_of_mem _ (List.mem_append_right _ (List.mem_append_left _ h)))
  refine g_iconst (v := 0) hk dX12_gaps_0 (by decide) ?_
  refine g_istore_n (lv' := [(1, .int 0), (0, .ref (r 0))]) hk dX12_gaps_1 (by decide) rfl ?_
  refine g_iconst (v := 0) hk dX12_gaps_2 (by decide) ?_
  refine g_istore_n (lv' := [(2, .int 0), (1, .int 0), (0, .ref (r 0))]) hk dX12_gaps_3 (by decide) rfl ?_
  have lp27025 : ∀ (n27026 : Nat) (x26956 : Int32) (x26957 : Int32), (0 ≤ x26956.toInt) → (x26956.toInt ≤ 160) → (161 - x26956.toInt < (n27026 : Int)) → (0 < n27026) → GW κ 3 0 0 (wM r g I A L) 4 [(2, .int x26956), (1, .int x26957), (0, .ref (r 0))] [] := by
    intro n27026
    induction n27026 with
    | zero =>
      intro x26956 x26957 h27023 h27024 m27027 m27027z
      exact absurd m27027z (Nat.lt_irrefl 0)
    | succ n27026 ih27028 =>
      intro x26956 x26957 h27023 h27024 m27027 m27027z
      refine g_iload_n hk dX12_gaps_4 rfl ?_
      refine g_aload_n hk dX12_gaps_5 rfl ?_
      refine gM_r0_35 hk hin12 (List.mem_cons_of_mem _ (List.mem_append_left _ (List.mem_of_getElem? (i := 0) rfl))) dX12_gaps_6 ?_
      refine g_iconst (v := 0) hk dX12_gaps_9 (by decide) ?_
      refine lM_17 (v := (A 17 0)) hk (vp_in_iff.mpr ⟨by decide, by decide⟩) rfl dX12_gaps_10 ?_
      have f27029 := IvM_s17_0 hIv
      refine g_icmp_ge (tgt := 31) (a := x26956.toInt) (b := (A 17 0).toInt) hk dX12_gaps_11 (by decide) rfl rfl (fun c27030 => ?_) (fun c27030 => ?_)
      · skip
        refine g_iload_n hk dX12_gaps_31 rfl ?_
        have b27031l := Int32.le_toInt x26957
        have b27031h := Int32.toInt_lt x26957
        exact g_iret hk hR rfl ⟨x26957, rfl, rfl⟩ dX12_gaps_32
      · skip
        refine g_aload_n hk dX12_gaps_14 rfl ?_
        refine g_iload_n hk dX12_gaps_15 rfl ?_
        refine g_callV (n := 1) hk (j143_X12_isThere l D zt r g I A L x26956 hIv) (SP.same _) (fun _ h => h) (gi_V (List.mem_cons_of_mem _ (List.mem_append_left _ (List.mem_of_getElem? (i := 1) rfl))) (List.mem_cons_of_mem _ (List.mem_append_left _ (List.mem_of_getElem? (i := 2) rfl))) (List.mem_cons_of_mem _ (List.mem_append_left _ (List.mem_of_getElem? (i := 3) rfl))) (List.mem_cons_of_mem _ (List.mem_append_left _ (List.mem_of_getElem? (i := 4) rfl))) (gi_sub (fun w h => (List.mem_cons_of_mem _ (List.mem_append_right _ (List.mem_append_right _ (List.mem_append_left _ h))))) zg_j143_X12_isThere)) rfl rfl rfl (by decide +kernel) ⟨Nat.le_of_ble_eq_true rfl, Nat.le_of_ble_eq_true rfl⟩ 0 rfl rfl rfl rfl (Nat.le_of_ble_eq_true rfl) ⟨Nat.le_of_ble_eq_true rfl, Nat.le_of_ble_eq_true rfl⟩ dX12_gaps_16 (fun v ty' w' hp hk' => ?_)
        rcases hp with ⟨rfl, rfl⟩ | ⟨c27033, c27034, c27035, c27036, c27037, rfl, rfl⟩
        · skip
          show GW κ 3 0 0 (wM r g I A L) 19 [(2, .int x26956), (1, .int x26957), (0, .ref (r 0))] [.int 0]
          refine g_if_ne (tgt := 25) (a := 0) hk dX12_gaps_19 (by decide) rfl (fun z9 => absurd z9 (show ¬ ((0 : Int) ≠ (0 : Int)) from by decide)) (fun _ => ?_)
          have b27039l := Int32.le_toInt x26957
          have b27039h := Int32.toInt_lt x26957
          obtain ⟨y27040, ey27040⟩ : ∃ y : Int32, y = x26957 + Int32.ofInt 1 := ⟨_, rfl⟩
          refine g_iinc (v := y27040) (lv' := [(1, .int y27040), (2, .int x26956), (0, .ref (r 0))]) hk 1 dX12_gaps_22 rfl ey27040.symm (by decide) rfl ?_
          obtain ⟨y27041, ey27041⟩ : ∃ y : Int32, y = x26956 + Int32.ofInt 1 := ⟨_, rfl⟩
          have hy27041 : y27041.toInt = x26956.toInt + 1 := i32_add ey27041 rfl (by decide) (by omega) (by omega)
          refine g_iinc (v := y27041) (lv' := [(2, .int y27041), (1, .int y27040), (0, .ref (r 0))]) hk 1 dX12_gaps_25 rfl ey27041.symm (by decide) rfl ?_
          refine g_goto (tgt := 4) hk dX12_gaps_28 (by decide) ?_
          have b27042l := Int32.le_toInt y27040
          have b27042h := Int32.toInt_lt y27040
          exact g_lv (List.forall_mem_cons.mpr ⟨List.mem_of_getElem? (i := 0) rfl, (List.forall_mem_cons.mpr ⟨List.mem_of_getElem? (i := 1) rfl, (List.forall_mem_cons.mpr ⟨List.mem_of_getElem? (i := 2) rfl, (fun _ h => absurd h List.not_mem_nil)⟩)⟩)⟩) (ih27028 y27041 y27040 (by omega) (by omega) (by omega) (by omega))
        · skip
          show GW κ 3 0 0 (wM r g I A L) 19 [(2, .int x26956), (1, .int x26957), (0, .ref (r 0))] [.int 1]
          refine g_if_ne (tgt := 25) (a := 1) hk dX12_gaps_19 (by decide) rfl (fun _ => ?_) (fun z9 => absurd (show (1 : Int) ≠ (0 : Int) from by decide) z9)
          obtain ⟨y27043, ey27043⟩ : ∃ y : Int32, y = x26956 + Int32.ofInt 1 := ⟨_, rfl⟩
          have hy27043 : y27043.toInt = x26956.toInt + 1 := i32_add ey27043 rfl (by decide) (by omega) (by omega)
          refine g_iinc (v := y27043) (lv' := [(2, .int y27043), (1, .int x26957), (0, .ref (r 0))]) hk 0 dX12_gaps_25 rfl ey27043.symm (by decide) rfl ?_
          refine g_goto (tgt := 4) hk dX12_gaps_28 (by decide) ?_
          have b27044l := Int32.le_toInt x26957
          have b27044h := Int32.toInt_lt x26957
          exact g_lv (List.forall_mem_cons.mpr ⟨List.mem_of_getElem? (i := 0) rfl, (List.forall_mem_cons.mpr ⟨List.mem_of_getElem? (i := 1) rfl, (List.forall_mem_cons.mpr ⟨List.mem_of_getElem? (i := 2) rfl, (fun _ h => absurd h List.not_mem_nil)⟩)⟩)⟩) (ih27028 y27043 x26957 (by omega) (by omega) (by omega) (by omega))
  have k27045 : (0 : Int32).toInt = 0 := rfl
  obtain ⟨n27046, n27046a, n27046b⟩ : ∃ n : Nat, 161 - (0 : Int32).toInt < (n : Int) ∧ 0 < n := ⟨((161 - (0 : Int32).toInt : Int)).toNat + 1, by omega, by omega⟩
  exact lp27025 n27046 0 0 (by omega) (by omega) n27046a n27046b
def wo_j217_X12_count : List Cond := [Cond.fieldLink RX12 70 "WarpDeskModel" "now" "[I", Cond.methodLink RX12 391 yX12_gaps, Cond.instanceMethod yX12_gaps, Cond.selects RX12 yX12_gaps yX12_gaps, Cond.initialized RX12, Cond.fieldLink RX12 49 "WarpDeskModel" "queries" "[I", Cond.fieldLink RX12 197 "WarpDeskModel" "live" "I", Cond.methodLink RX12 320 yX12_isThere, Cond.instanceMethod yX12_isThere, Cond.selects RX12 yX12_isThere yX12_isThere, Cond.fieldLink RX12 124 "WarpDeskModel" "taped" "I", Cond.fieldLink RX12 209 "WarpDeskModel" "undos" "I", Cond.fieldLink RX12 100 "WarpDeskModel" "isHeld" "[Z", Cond.constant RX12 239 (100000)]
def wz_j217_X12_count : List Cond := .code yX12_count cX12_count 4 (some .int) :: (wo_j217_X12_count ++ (wsX120 ++ (wz_j218_X12_gaps ++ (wz_j143_X12_isThere ++ ([] : List Cond)))))
theorem zg_j217_X12_count : ∀ w ∈ wz_j217_X12_count, goodWord w = true := zg_cons rfl (zg_app (by decide +kernel) (zg_app zgU_wsX120 (zg_app zg_j218_X12_gaps (zg_app zg_j143_X12_isThere zg_nil))))
theorem zi_j217_X12_count : ∀ w ∈ wz_j217_X12_count, w ∈ lw_tbl := zi_cons zw_1946 (zi_app (zi_cons zw_1413 (zi_cons zw_1947 (zi_cons zw_1949 (zi_cons zw_101 (zi_cons zw_115 (zi_cons zw_1406 (zi_cons zw_1400 (zi_cons zw_1648 (zi_cons zw_1650 (zi_cons zw_65 (zi_cons zw_1381 (zi_cons zw_1422 (zi_cons zw_1431 (zi_cons zw_1607 zi_nil)))))))))))))) (zi_app inX12 (zi_app zi_j218_X12_gaps (zi_app zi_j143_X12_isThere zi_nil))))
set_option maxHeartbeats 4000000 in
set_option maxRecDepth 100000 in
theorem j217_X12_count (l : Launch) (D : va_G) (zt : Nat × Nat × Nat × (Nat → Nat) × (Nat → Nat)) (r : Nat → Nat) (g : Nat → ClassId) (I : Nat → Int32) (A : Nat → Nat → Int32) (L : Nat → Nat → Int64) (z1 : Int32) (hIv : IvM I A) : GM l D zt (tyM g) yX12_count wz_j217_X12_count ({ frames := 4, cells := 0, slots := 0, locals := 86 } : Room) [.ref (r 0), .int z1] (wM r g I A L) (fun v _ w' => ∃ y0 : Int32, v = some (.int y0) ∧ w' = wM r g I A L) 0 0 := by
  refine GM.of (cc := cX12_count) (maxL := 4) (ret := (some .int)) (own := RX12) (lv := [(0, .ref (r 0)), (1, .int z1)]) (by decide) rfl rfl (Nat.le_of_ble_eq_true rfl) rfl (fun κ sz hk hR hN => ?_)
  have hin12 : ∀ w ∈ u_ws RX12 TX12 55, w ∈ wz_j217_X12_count := fun w h => (List.mem_cons_of_mem _ (List.mem_append_right _ (List.mem_append_left _ h)))
  refine g_iconst (v := 0) hk dX12_count_0 (by decide) ?_
  refine g_istore_n (lv' := [(2, .int 0), (0, .ref (r 0)), (1, .int z1)]) hk dX12_count_1 (by decide) rfl ?_
  refine g_iload_n hk dX12_count_2 rfl ?_
  by_cases c26953 : z1.toInt = 0
  · refine g_tabIn (tgt := 76) (a := 0) hk dX12_count_3 c26953 (by decide) (by decide) rfl (by decide) ?_
    refine g_aload_n hk dX12_count_76 rfl ?_
    refine gM_r0_35 hk hin12 (List.mem_cons_of_mem _ (List.mem_append_left _ (List.mem_of_getElem? (i := 0) rfl))) dX12_count_77 ?_
    refine g_iconst (v := 0) hk dX12_count_80 (by decide) ?_
    refine lM_17 (v := (A 17 0)) hk (vp_in_iff.mpr ⟨by decide, by decide⟩) rfl dX12_count_81 ?_
    have f26954 := IvM_s17_0 hIv
    exact g_iret hk hR rfl ⟨(A 17 0), rfl, rfl⟩ dX12_count_82
  by_cases c26955 : z1.toInt = 1
  · refine g_tabIn (tgt := 83) (a := 1) hk dX12_count_3 c26955 (by decide) (by decide) rfl (by decide) ?_
    refine g_aload_n hk dX12_count_83 rfl ?_
    refine g_callV (n := 0) hk (j218_X12_gaps l D zt r g I A L  hIv) (SP.same _) (fun _ h => h) (gi_V (List.mem_cons_of_mem _ (List.mem_append_left _ (List.mem_of_getElem? (i := 1) rfl))) (List.mem_cons_of_mem _ (List.mem_append_left _ (List.mem_of_getElem? (i := 2) rfl))) (List.mem_cons_of_mem _ (List.mem_append_left _ (List.mem_of_getElem? (i := 3) rfl))) (List.mem_cons_of_mem _ (List.mem_append_left _ (List.mem_of_getElem? (i := 4) rfl))) (gi_sub (fun w h => (List.mem_cons_of_mem _ (List.mem_append_right _ (List.mem_append_right _ (List.mem_append_left _ h))))) zg_j218_X12_gaps)) rfl rfl rfl (by decide +kernel) ⟨Nat.le_of_ble_eq_true rfl, Nat.le_of_ble_eq_true rfl⟩ 0 rfl rfl rfl rfl (Nat.le_of_ble_eq_true rfl) ⟨Nat.le_of_ble_eq_true rfl, Nat.le_of_ble_eq_true rfl⟩ dX12_count_84 (fun v ty' w' hp hk' => ?_)
    obtain ⟨y27047, rfl, rfl⟩ := hp
    show GW κ 4 0 0 (wM r g I A L) 87 [(2, .int 0), (0, .ref (r 0)), (1, .int z1)] [.int y27047]
    have b27048l := Int32.le_toInt y27047
    have b27048h := Int32.toInt_lt y27047
    exact g_iret hk hR rfl ⟨y27047, rfl, rfl⟩ dX12_count_87
  by_cases c27049 : z1.toInt = 2
  · refine g_tabIn (tgt := 88) (a := 2) hk dX12_count_3 c27049 (by decide) (by decide) rfl (by decide) ?_
    refine g_aload_n hk dX12_count_88 rfl ?_
    refine gM_r0_28 hk hin12 (List.mem_cons_of_mem _ (List.mem_append_left _ (List.mem_of_getElem? (i := 5) rfl))) dX12_count_89 ?_
    refine g_aload_n hk dX12_count_92 rfl ?_
    refine gM_i15 (v := (I 15)) hk hin12 (List.mem_cons_of_mem _ (List.mem_append_left _ (List.mem_of_getElem? (i := 6) rfl))) dX12_count_93 rfl ?_
    have f27050 := IvM_f15 hIv
    by_cases c27051 : (I 15).toInt = 0
    · have ec27051 : (I 15) = 0 := Int32.toInt_inj.mp c27051
      rw [ec27051]
      show GW κ 4 0 0 (wM r g I A L) 96 [(2, .int 0), (0, .ref (r 0)), (1, .int z1)] [.int 0, .ref (r 11)]
      refine lM_10 (v := (A 10 0)) hk (vp_in_iff.mpr ⟨by decide, by decide⟩) rfl dX12_count_96 ?_
      have f27052 := IvM_s10_0 hIv
      exact g_iret hk hR rfl ⟨(A 10 0), rfl, rfl⟩ dX12_count_97
    by_cases c27053 : (I 15).toInt = 1
    · have ec27053 : (I 15) = 1 := Int32.toInt_inj.mp c27053
      rw [ec27053]
      show GW κ 4 0 0 (wM r g I A L) 96 [(2, .int 0), (0, .ref (r 0)), (1, .int z1)] [.int 1, .ref (r 11)]
      refine lM_10 (v := (A 10 1)) hk (vp_in_iff.mpr ⟨by decide, by decide⟩) rfl dX12_count_96 ?_
      have f27054 := IvM_s10_1 hIv
      exact g_iret hk hR rfl ⟨(A 10 1), rfl, rfl⟩ dX12_count_97
    exfalso; omega
  by_cases c27055 : z1.toInt = 3
  · refine g_tabIn (tgt := 98) (a := 3) hk dX12_count_3 c27055 (by decide) (by decide) rfl (by decide) ?_
    refine g_aload_n hk dX12_count_98 rfl ?_
    refine gM_r0_35 hk hin12 (List.mem_cons_of_mem _ (List.mem_append_left _ (List.mem_of_getElem? (i := 0) rfl))) dX12_count_99 ?_
    refine g_sipush (v := 161) hk dX12_count_102 (by decide) ?_
    refine lM_17 (v := (A 17 161)) hk (vp_in_iff.mpr ⟨by decide, by decide⟩) rfl dX12_count_105 ?_
    have b27056l := Int32.le_toInt (A 17 161)
    have b27056h := Int32.toInt_lt (A 17 161)
    exact g_iret hk hR rfl ⟨(A 17 161), rfl, rfl⟩ dX12_count_106
  by_cases c27057 : z1.toInt = 4
  · refine g_tabIn (tgt := 107) (a := 4) hk dX12_count_3 c27057 (by decide) (by decide) rfl (by decide) ?_
    refine g_aload_n hk dX12_count_107 rfl ?_
    refine gM_r0_35 hk hin12 (List.mem_cons_of_mem _ (List.mem_append_left _ (List.mem_of_getElem? (i := 0) rfl))) dX12_count_108 ?_
    refine g_sipush (v := 162) hk dX12_count_111 (by decide) ?_
    refine lM_17 (v := (A 17 162)) hk (vp_in_iff.mpr ⟨by decide, by decide⟩) rfl dX12_count_114 ?_
    have b27058l := Int32.le_toInt (A 17 162)
    have b27058h := Int32.toInt_lt (A 17 162)
    exact g_iret hk hR rfl ⟨(A 17 162), rfl, rfl⟩ dX12_count_115
  by_cases c27059 : z1.toInt = 5
  · refine g_tabIn (tgt := 116) (a := 5) hk dX12_count_3 c27059 (by decide) (by decide) rfl (by decide) ?_
    refine g_aload_n hk dX12_count_116 rfl ?_
    refine gM_r0_35 hk hin12 (List.mem_cons_of_mem _ (List.mem_append_left _ (List.mem_of_getElem? (i := 0) rfl))) dX12_count_117 ?_
    refine g_sipush (v := 163) hk dX12_count_120 (by decide) ?_
    refine lM_17 (v := (A 17 163)) hk (vp_in_iff.mpr ⟨by decide, by decide⟩) rfl dX12_count_123 ?_
    have b27060l := Int32.le_toInt (A 17 163)
    have b27060h := Int32.toInt_lt (A 17 163)
    exact g_iret hk hR rfl ⟨(A 17 163), rfl, rfl⟩ dX12_count_124
  by_cases c27061 : z1.toInt = 6
  · refine g_tabIn (tgt := 125) (a := 6) hk dX12_count_3 c27061 (by decide) (by decide) rfl (by decide) ?_
    refine g_aload_n hk dX12_count_125 rfl ?_
    refine gM_r0_35 hk hin12 (List.mem_cons_of_mem _ (List.mem_append_left _ (List.mem_of_getElem? (i := 0) rfl))) dX12_count_126 ?_
    refine g_sipush (v := 164) hk dX12_count_129 (by decide) ?_
    refine lM_17 (v := (A 17 164)) hk (vp_in_iff.mpr ⟨by decide, by decide⟩) rfl dX12_count_132 ?_
    have f27062 := IvM_s17_164 hIv
    have b27063l := Int32.le_toInt (A 17 164)
    have b27063h := Int32.toInt_lt (A 17 164)
    exact g_iret hk hR rfl ⟨(A 17 164), rfl, rfl⟩ dX12_count_133
  by_cases c27064 : z1.toInt = 7
  · refine g_tabIn (tgt := 134) (a := 7) hk dX12_count_3 c27064 (by decide) (by decide) rfl (by decide) ?_
    have lp27082 : ∀ (n27083 : Nat) (x27065 : Int32), (0 ≤ x27065.toInt) → (x27065.toInt ≤ 160) → (161 - x27065.toInt < (n27083 : Int)) → (0 < n27083) → GW κ 4 0 0 (wM r g I A L) 134 [(2, .int x27065), (0, .ref (r 0)), (1, .int z1)] [] := by
      intro n27083
      induction n27083 with
      | zero =>
        intro x27065 h27080 h27081 m27084 m27084z
        exact absurd m27084z (Nat.lt_irrefl 0)
      | succ n27083 ih27085 =>
        intro x27065 h27080 h27081 m27084 m27084z
        refine g_aload_n hk dX12_count_134 rfl ?_
        refine g_aload_n hk dX12_count_135 rfl ?_
        refine gM_r0_35 hk hin12 (List.mem_cons_of_mem _ (List.mem_append_left _ (List.mem_of_getElem? (i := 0) rfl))) dX12_count_136 ?_
        refine g_iconst (v := 0) hk dX12_count_139 (by decide) ?_
        refine lM_17 (v := (A 17 0)) hk (vp_in_iff.mpr ⟨by decide, by decide⟩) rfl dX12_count_140 ?_
        have f27086 := IvM_s17_0 hIv
        refine g_iconst (v := 1) hk dX12_count_141 (by decide) ?_
        refine g_isub hk dX12_count_142 ?_
        refine g_topi (fun y27087 ey27087 => ?_)
        have hy27087 : y27087.toInt = (A 17 0).toInt - 1 := i32_sub ey27087 rfl rfl (by omega) (by omega)
        refine g_iload_n hk dX12_count_143 rfl ?_
        refine g_isub hk dX12_count_144 ?_
        refine g_topi (fun y27088 ey27088 => ?_)
        have hy27088 : y27088.toInt = y27087.toInt - x27065.toInt := i32_sub ey27088 rfl rfl (by omega) (by omega)
        refine g_callV (n := 1) hk (j143_X12_isThere l D zt r g I A L y27088 hIv) (SP.same _) (fun _ h => h) (gi_V (List.mem_cons_of_mem _ (List.mem_append_left _ (List.mem_of_getElem? (i := 7) rfl))) (List.mem_cons_of_mem _ (List.mem_append_left _ (List.mem_of_getElem? (i := 8) rfl))) (List.mem_cons_of_mem _ (List.mem_append_left _ (List.mem_of_getElem? (i := 9) rfl))) (List.mem_cons_of_mem _ (List.mem_append_left _ (List.mem_of_getElem? (i := 4) rfl))) (gi_sub (fun w h => (List.mem_cons_of_mem _ (List.mem_append_right _ (List.mem_append_right _ (List.mem_append_right _ (List.mem_append_left _ h)))))) zg_j143_X12_isThere)) rfl rfl rfl (by decide +kernel) ⟨Nat.le_of_ble_eq_true rfl, Nat.le_of_ble_eq_true rfl⟩ 0 rfl rfl rfl rfl (Nat.le_of_ble_eq_true rfl) ⟨Nat.le_of_ble_eq_true rfl, Nat.le_of_ble_eq_true rfl⟩ dX12_count_145 (fun v ty' w' hp hk' => ?_)
        rcases hp with ⟨rfl, rfl⟩ | ⟨c27090, c27091, c27092, c27093, c27094, rfl, rfl⟩
        · skip
          show GW κ 4 0 0 (wM r g I A L) 148 [(2, .int x27065), (0, .ref (r 0)), (1, .int z1)] [.int 0]
          refine g_if_eq (tgt := 157) (a := 0) hk dX12_count_148 (by decide) rfl (fun _ => ?_) (fun z9 => absurd (show (0 : Int) = (0 : Int) from by decide) z9)
          refine g_iload_n hk dX12_count_157 rfl ?_
          exact g_iret hk hR rfl ⟨x27065, rfl, rfl⟩ dX12_count_158
        · skip
          show GW κ 4 0 0 (wM r g I A L) 148 [(2, .int x27065), (0, .ref (r 0)), (1, .int z1)] [.int 1]
          refine g_if_eq (tgt := 157) (a := 1) hk dX12_count_148 (by decide) rfl (fun z9 => absurd z9 (show ¬ ((1 : Int) = (0 : Int)) from by decide)) (fun _ => ?_)
          obtain ⟨y27096, ey27096⟩ : ∃ y : Int32, y = x27065 + Int32.ofInt 1 := ⟨_, rfl⟩
          have hy27096 : y27096.toInt = x27065.toInt + 1 := i32_add ey27096 rfl (by decide) (by omega) (by omega)
          refine g_iinc (v := y27096) (lv' := [(2, .int y27096), (0, .ref (r 0)), (1, .int z1)]) hk 0 dX12_count_151 rfl ey27096.symm (by decide) rfl ?_
          refine g_goto (tgt := 134) hk dX12_count_154 (by decide) ?_
          exact g_lv (List.forall_mem_cons.mpr ⟨List.mem_of_getElem? (i := 0) rfl, (List.forall_mem_cons.mpr ⟨List.mem_of_getElem? (i := 1) rfl, (List.forall_mem_cons.mpr ⟨List.mem_of_getElem? (i := 2) rfl, (fun _ h => absurd h List.not_mem_nil)⟩)⟩)⟩) (ih27085 y27096 (by omega) (by omega) (by omega) (by omega))
    have k27097 : (0 : Int32).toInt = 0 := rfl
    obtain ⟨n27098, n27098a, n27098b⟩ : ∃ n : Nat, 161 - (0 : Int32).toInt < (n : Int) ∧ 0 < n := ⟨((161 - (0 : Int32).toInt : Int)).toNat + 1, by omega, by omega⟩
    exact lp27082 n27098 0 (by omega) (by omega) n27098a n27098b
  by_cases c27099 : z1.toInt = 8
  · refine g_tabIn (tgt := 159) (a := 8) hk dX12_count_3 c27099 (by decide) (by decide) rfl (by decide) ?_
    refine g_aload_n hk dX12_count_159 rfl ?_
    refine gM_i1 (v := (I 1)) hk hin12 (List.mem_cons_of_mem _ (List.mem_append_left _ (List.mem_of_getElem? (i := 10) rfl))) dX12_count_160 rfl ?_
    have f27100 := IvM_f1 hIv
    exact g_iret hk hR rfl ⟨(I 1), rfl, rfl⟩ dX12_count_163
  by_cases c27101 : z1.toInt = 9
  · refine g_tabIn (tgt := 164) (a := 9) hk dX12_count_3 c27101 (by decide) (by decide) rfl (by decide) ?_
    refine g_aload_n hk dX12_count_164 rfl ?_
    refine gM_i22 (v := (I 22)) hk hin12 (List.mem_cons_of_mem _ (List.mem_append_left _ (List.mem_of_getElem? (i := 11) rfl))) dX12_count_165 rfl ?_
    have f27102 := IvM_f22 hIv
    exact g_iret hk hR rfl ⟨(I 22), rfl, rfl⟩ dX12_count_168
  by_cases c27103 : z1.toInt = 10
  · refine g_tabIn (tgt := 169) (a := 10) hk dX12_count_3 c27103 (by decide) (by decide) rfl (by decide) ?_
    refine g_iconst (v := 0) hk dX12_count_169 (by decide) ?_
    refine g_istore_n (lv' := [(3, .int 0), (2, .int 0), (0, .ref (r 0)), (1, .int z1)]) hk dX12_count_170 (by decide) rfl ?_
    have lp27169 : ∀ (n27170 : Nat) (x27104 : Int32) (x27105 : Int32), (0 ≤ x27104.toInt) → (x27104.toInt ≤ 160) → (161 - x27104.toInt < (n27170 : Int)) → (0 < n27170) → GW κ 4 0 0 (wM r g I A L) 171 [(3, .int x27104), (2, .int x27105), (0, .ref (r 0)), (1, .int z1)] [] := by
      intro n27170
      induction n27170 with
      | zero =>
        intro x27104 x27105 h27167 h27168 m27171 m27171z
        exact absurd m27171z (Nat.lt_irrefl 0)
      | succ n27170 ih27172 =>
        intro x27104 x27105 h27167 h27168 m27171 m27171z
        refine g_iload_n hk dX12_count_171 rfl ?_
        refine g_aload_n hk dX12_count_172 rfl ?_
        refine gM_r0_35 hk hin12 (List.mem_cons_of_mem _ (List.mem_append_left _ (List.mem_of_getElem? (i := 0) rfl))) dX12_count_173 ?_
        refine g_iconst (v := 0) hk dX12_count_176 (by decide) ?_
        refine lM_17 (v := (A 17 0)) hk (vp_in_iff.mpr ⟨by decide, by decide⟩) rfl dX12_count_177 ?_
        have f27173 := IvM_s17_0 hIv
        refine g_icmp_ge (tgt := 206) (a := x27104.toInt) (b := (A 17 0).toInt) hk dX12_count_178 (by decide) rfl rfl (fun c27174 => ?_) (fun c27174 => ?_)
        · skip
          refine g_iload_n hk dX12_count_206 rfl ?_
          have b27175l := Int32.le_toInt x27105
          have b27175h := Int32.toInt_lt x27105
          exact g_iret hk hR rfl ⟨x27105, rfl, rfl⟩ dX12_count_207
        · skip
          refine g_aload_n hk dX12_count_181 rfl ?_
          refine g_iload_n hk dX12_count_182 rfl ?_
          refine g_callV (n := 1) hk (j143_X12_isThere l D zt r g I A L x27104 hIv) (SP.same _) (fun _ h => h) (gi_V (List.mem_cons_of_mem _ (List.mem_append_left _ (List.mem_of_getElem? (i := 7) rfl))) (List.mem_cons_of_mem _ (List.mem_append_left _ (List.mem_of_getElem? (i := 8) rfl))) (List.mem_cons_of_mem _ (List.mem_append_left _ (List.mem_of_getElem? (i := 9) rfl))) (List.mem_cons_of_mem _ (List.mem_append_left _ (List.mem_of_getElem? (i := 4) rfl))) (gi_sub (fun w h => (List.mem_cons_of_mem _ (List.mem_append_right _ (List.mem_append_right _ (List.mem_append_right _ (List.mem_append_left _ h)))))) zg_j143_X12_isThere)) rfl rfl rfl (by decide +kernel) ⟨Nat.le_of_ble_eq_true rfl, Nat.le_of_ble_eq_true rfl⟩ 0 rfl rfl rfl rfl (Nat.le_of_ble_eq_true rfl) ⟨Nat.le_of_ble_eq_true rfl, Nat.le_of_ble_eq_true rfl⟩ dX12_count_183 (fun v ty' w' hp hk' => ?_)
          rcases hp with ⟨rfl, rfl⟩ | ⟨c27177, c27178, c27179, c27180, c27181, rfl, rfl⟩
          · skip
            show GW κ 4 0 0 (wM r g I A L) 186 [(3, .int x27104), (2, .int x27105), (0, .ref (r 0)), (1, .int z1)] [.int 0]
            refine g_if_eq (tgt := 200) (a := 0) hk dX12_count_186 (by decide) rfl (fun _ => ?_) (fun z9 => absurd (show (0 : Int) = (0 : Int) from by decide) z9)
            obtain ⟨y27183, ey27183⟩ : ∃ y : Int32, y = x27104 + Int32.ofInt 1 := ⟨_, rfl⟩
            have hy27183 : y27183.toInt = x27104.toInt + 1 := i32_add ey27183 rfl (by decide) (by omega) (by omega)
            refine g_iinc (v := y27183) (lv' := [(3, .int y27183), (2, .int x27105), (0, .ref (r 0)), (1, .int z1)]) hk 0 dX12_count_200 rfl ey27183.symm (by decide) rfl ?_
            refine g_goto (tgt := 171) hk dX12_count_203 (by decide) ?_
            have b27184l := Int32.le_toInt x27105
            have b27184h := Int32.toInt_lt x27105
            exact g_lv (List.forall_mem_cons.mpr ⟨List.mem_of_getElem? (i := 0) rfl, (List.forall_mem_cons.mpr ⟨List.mem_of_getElem? (i := 1) rfl, (List.forall_mem_cons.mpr ⟨List.mem_of_getElem? (i := 2) rfl, (List.forall_mem_cons.mpr ⟨List.mem_of_getElem? (i := 3) rfl, (fun _ h => absurd h List.not_mem_nil)⟩)⟩)⟩)⟩) (ih27172 y27183 x27105 (by omega) (by omega) (by omega) (by omega))
          · skip
            show GW κ 4 0 0 (wM r g I A L) 186 [(3, .int x27104), (2, .int x27105), (0, .ref (r 0)), (1, .int z1)] [.int 1]
            refine g_if_eq (tgt := 200) (a := 1) hk dX12_count_186 (by decide) rfl (fun z9 => absurd z9 (show ¬ ((1 : Int) = (0 : Int)) from by decide)) (fun _ => ?_)
            refine g_iload_n hk dX12_count_189 rfl ?_
            refine g_aload_n hk dX12_count_190 rfl ?_
            refine gM_r0_35 hk hin12 (List.mem_cons_of_mem _ (List.mem_append_left _ (List.mem_of_getElem? (i := 0) rfl))) dX12_count_191 ?_
            refine g_iconst (v := 1) hk dX12_count_194 (by decide) ?_
            refine g_iload_n hk dX12_count_195 rfl ?_
            refine g_iadd hk dX12_count_196 ?_
            refine g_topi (fun y27185 ey27185 => ?_)
            have hy27185 : y27185.toInt = 1 + x27104.toInt := i32_add ey27185 rfl rfl (by omega) (by omega)
            refine lM_17 (v := (A 17 y27185.toNatClampNeg)) hk (vp_in_iff.mpr ⟨by omega, by omega⟩) rfl dX12_count_197 ?_
            have b27186l := Int32.le_toInt x27105
            have b27186h := Int32.toInt_lt x27105
            have b27187l := Int32.le_toInt (A 17 y27185.toNatClampNeg)
            have b27187h := Int32.toInt_lt (A 17 y27185.toNatClampNeg)
            refine g_iadd hk dX12_count_198 ?_
            refine g_topi (fun y27188 ey27188 => ?_)
            refine g_istore_n (lv' := [(2, .int y27188), (3, .int x27104), (0, .ref (r 0)), (1, .int z1)]) hk dX12_count_199 (by decide) rfl ?_
            obtain ⟨y27189, ey27189⟩ : ∃ y : Int32, y = x27104 + Int32.ofInt 1 := ⟨_, rfl⟩
            have hy27189 : y27189.toInt = x27104.toInt + 1 := i32_add ey27189 rfl (by decide) (by omega) (by omega)
            refine g_iinc (v := y27189) (lv' := [(3, .int y27189), (2, .int y27188), (0, .ref (r 0)), (1, .int z1)]) hk 1 dX12_count_200 rfl ey27189.symm (by decide) rfl ?_
            refine g_goto (tgt := 171) hk dX12_count_203 (by decide) ?_
            have b27190l := Int32.le_toInt y27188
            have b27190h := Int32.toInt_lt y27188
            exact g_lv (List.forall_mem_cons.mpr ⟨List.mem_of_getElem? (i := 0) rfl, (List.forall_mem_cons.mpr ⟨List.mem_of_getElem? (i := 1) rfl, (List.forall_mem_cons.mpr ⟨List.mem_of_getElem? (i := 2) rfl, (List.forall_mem_cons.mpr ⟨List.mem_of_getElem? (i := 3) rfl, (fun _ h => absurd h List.not_mem_nil)⟩)⟩)⟩)⟩) (ih27172 y27189 y27188 (by omega) (by omega) (by omega) (by omega))
    have k27191 : (0 : Int32).toInt = 0 := rfl
    obtain ⟨n27192, n27192a, n27192b⟩ : ∃ n : Nat, 161 - (0 : Int32).toInt < (n : Int) ∧ 0 < n := ⟨((161 - (0 : Int32).toInt : Int)).toNat + 1, by omega, by omega⟩
    exact lp27169 n27192 0 0 (by omega) (by omega) n27192a n27192b
  by_cases c27193 : z1.toInt = 11
  · refine g_tabIn (tgt := 208) (a := 11) hk dX12_count_3 c27193 (by decide) (by decide) rfl (by decide) ?_
    refine g_aload_n hk dX12_count_208 rfl ?_
    refine gM_r0_53 hk hin12 (List.mem_cons_of_mem _ (List.mem_append_left _ (List.mem_of_getElem? (i := 12) rfl))) dX12_count_209 ?_
    refine g_iconst (v := 0) hk dX12_count_212 (by decide) ?_
    refine lM_27 (v := (A 27 0)) hk (vp_in_iff.mpr ⟨by decide, by decide⟩) rfl dX12_count_213 ?_
    have b27194l := Int32.le_toInt (A 27 0)
    have b27194h := Int32.toInt_lt (A 27 0)
    refine g_if_eq (tgt := 221) (a := (A 27 0).toInt) hk dX12_count_214 (by decide) rfl (fun c27195 => ?_) (fun c27195 => ?_)
    · skip
      refine g_iconst (v := 0) hk dX12_count_221 (by decide) ?_
      refine g_aload_n hk dX12_count_222 rfl ?_
      refine gM_r0_53 hk hin12 (List.mem_cons_of_mem _ (List.mem_append_left _ (List.mem_of_getElem? (i := 12) rfl))) dX12_count_223 ?_
      refine g_iconst (v := 1) hk dX12_count_226 (by decide) ?_
      refine lM_27 (v := (A 27 1)) hk (vp_in_iff.mpr ⟨by decide, by decide⟩) rfl dX12_count_227 ?_
      have b27196l := Int32.le_toInt (A 27 1)
      have b27196h := Int32.toInt_lt (A 27 1)
      refine g_if_eq (tgt := 235) (a := (A 27 1).toInt) hk dX12_count_228 (by decide) rfl (fun c27197 => ?_) (fun c27197 => ?_)
      · skip
        refine g_iconst (v := 0) hk dX12_count_235 (by decide) ?_
        refine g_iadd hk dX12_count_236 ?_
        refine g_norm (v := 0) (by decide) ?_
        refine g_aload_n hk dX12_count_237 rfl ?_
        refine gM_r0_53 hk hin12 (List.mem_cons_of_mem _ (List.mem_append_left _ (List.mem_of_getElem? (i := 12) rfl))) dX12_count_238 ?_
        refine g_iconst (v := 2) hk dX12_count_241 (by decide) ?_
        refine lM_27 (v := (A 27 2)) hk (vp_in_iff.mpr ⟨by decide, by decide⟩) rfl dX12_count_242 ?_
        have b27198l := Int32.le_toInt (A 27 2)
        have b27198h := Int32.toInt_lt (A 27 2)
        refine g_if_eq (tgt := 250) (a := (A 27 2).toInt) hk dX12_count_243 (by decide) rfl (fun c27199 => ?_) (fun c27199 => ?_)
        · skip
          refine g_iconst (v := 0) hk dX12_count_250 (by decide) ?_
          refine g_iadd hk dX12_count_251 ?_
          refine g_norm (v := 0) (by decide) ?_
          exact g_iret hk hR rfl ⟨0, rfl, rfl⟩ dX12_count_252
        · skip
          refine g_iconst (v := 1) hk dX12_count_246 (by decide) ?_
          refine g_goto (tgt := 251) hk dX12_count_247 (by decide) ?_
          refine g_iadd hk dX12_count_251 ?_
          refine g_norm (v := 1) (by decide) ?_
          exact g_iret hk hR rfl ⟨1, rfl, rfl⟩ dX12_count_252
      · skip
        refine g_iconst (v := 1) hk dX12_count_231 (by decide) ?_
        refine g_goto (tgt := 236) hk dX12_count_232 (by decide) ?_
        refine g_iadd hk dX12_count_236 ?_
        refine g_norm (v := 1) (by decide) ?_
        refine g_aload_n hk dX12_count_237 rfl ?_
        refine gM_r0_53 hk hin12 (List.mem_cons_of_mem _ (List.mem_append_left _ (List.mem_of_getElem? (i := 12) rfl))) dX12_count_238 ?_
        refine g_iconst (v := 2) hk dX12_count_241 (by decide) ?_
        refine lM_27 (v := (A 27 2)) hk (vp_in_iff.mpr ⟨by decide, by decide⟩) rfl dX12_count_242 ?_
        have b27200l := Int32.le_toInt (A 27 2)
        have b27200h := Int32.toInt_lt (A 27 2)
        refine g_if_eq (tgt := 250) (a := (A 27 2).toInt) hk dX12_count_243 (by decide) rfl (fun c27201 => ?_) (fun c27201 => ?_)
        · skip
          refine g_iconst (v := 0) hk dX12_count_250 (by decide) ?_
          refine g_iadd hk dX12_count_251 ?_
          refine g_norm (v := 1) (by decide) ?_
          exact g_iret hk hR rfl ⟨1, rfl, rfl⟩ dX12_count_252
        · skip
          refine g_iconst (v := 1) hk dX12_count_246 (by decide) ?_
          refine g_goto (tgt := 251) hk dX12_count_247 (by decide) ?_
          refine g_iadd hk dX12_count_251 ?_
          refine g_norm (v := 2) (by decide) ?_
          exact g_iret hk hR rfl ⟨2, rfl, rfl⟩ dX12_count_252
    · skip
      refine g_iconst (v := 1) hk dX12_count_217 (by decide) ?_
      refine g_goto (tgt := 222) hk dX12_count_218 (by decide) ?_
      refine g_aload_n hk dX12_count_222 rfl ?_
      refine gM_r0_53 hk hin12 (List.mem_cons_of_mem _ (List.mem_append_left _ (List.mem_of_getElem? (i := 12) rfl))) dX12_count_223 ?_
      refine g_iconst (v := 1) hk dX12_count_226 (by decide) ?_
      refine lM_27 (v := (A 27 1)) hk (vp_in_iff.mpr ⟨by decide, by decide⟩) rfl dX12_count_227 ?_
      have b27202l := Int32.le_toInt (A 27 1)
      have b27202h := Int32.toInt_lt (A 27 1)
      refine g_if_eq (tgt := 235) (a := (A 27 1).toInt) hk dX12_count_228 (by decide) rfl (fun c27203 => ?_) (fun c27203 => ?_)
      · skip
        refine g_iconst (v := 0) hk dX12_count_235 (by decide) ?_
        refine g_iadd hk dX12_count_236 ?_
        refine g_norm (v := 1) (by decide) ?_
        refine g_aload_n hk dX12_count_237 rfl ?_
        refine gM_r0_53 hk hin12 (List.mem_cons_of_mem _ (List.mem_append_left _ (List.mem_of_getElem? (i := 12) rfl))) dX12_count_238 ?_
        refine g_iconst (v := 2) hk dX12_count_241 (by decide) ?_
        refine lM_27 (v := (A 27 2)) hk (vp_in_iff.mpr ⟨by decide, by decide⟩) rfl dX12_count_242 ?_
        have b27204l := Int32.le_toInt (A 27 2)
        have b27204h := Int32.toInt_lt (A 27 2)
        refine g_if_eq (tgt := 250) (a := (A 27 2).toInt) hk dX12_count_243 (by decide) rfl (fun c27205 => ?_) (fun c27205 => ?_)
        · skip
          refine g_iconst (v := 0) hk dX12_count_250 (by decide) ?_
          refine g_iadd hk dX12_count_251 ?_
          refine g_norm (v := 1) (by decide) ?_
          exact g_iret hk hR rfl ⟨1, rfl, rfl⟩ dX12_count_252
        · skip
          refine g_iconst (v := 1) hk dX12_count_246 (by decide) ?_
          refine g_goto (tgt := 251) hk dX12_count_247 (by decide) ?_
          refine g_iadd hk dX12_count_251 ?_
          refine g_norm (v := 2) (by decide) ?_
          exact g_iret hk hR rfl ⟨2, rfl, rfl⟩ dX12_count_252
      · skip
        refine g_iconst (v := 1) hk dX12_count_231 (by decide) ?_
        refine g_goto (tgt := 236) hk dX12_count_232 (by decide) ?_
        refine g_iadd hk dX12_count_236 ?_
        refine g_norm (v := 2) (by decide) ?_
        refine g_aload_n hk dX12_count_237 rfl ?_
        refine gM_r0_53 hk hin12 (List.mem_cons_of_mem _ (List.mem_append_left _ (List.mem_of_getElem? (i := 12) rfl))) dX12_count_238 ?_
        refine g_iconst (v := 2) hk dX12_count_241 (by decide) ?_
        refine lM_27 (v := (A 27 2)) hk (vp_in_iff.mpr ⟨by decide, by decide⟩) rfl dX12_count_242 ?_
        have b27206l := Int32.le_toInt (A 27 2)
        have b27206h := Int32.toInt_lt (A 27 2)
        refine g_if_eq (tgt := 250) (a := (A 27 2).toInt) hk dX12_count_243 (by decide) rfl (fun c27207 => ?_) (fun c27207 => ?_)
        · skip
          refine g_iconst (v := 0) hk dX12_count_250 (by decide) ?_
          refine g_iadd hk dX12_count_251 ?_
          refine g_norm (v := 2) (by decide) ?_
          exact g_iret hk hR rfl ⟨2, rfl, rfl⟩ dX12_count_252
        · skip
          refine g_iconst (v := 1) hk dX12_count_246 (by decide) ?_
          refine g_goto (tgt := 251) hk dX12_count_247 (by decide) ?_
          refine g_iadd hk dX12_count_251 ?_
          refine g_norm (v := 3) (by decide) ?_
          exact g_iret hk hR rfl ⟨3, rfl, rfl⟩ dX12_count_252
  by_cases c27208 : z1.toInt = 12
  · refine g_tabIn (tgt := 253) (a := 12) hk dX12_count_3 c27208 (by decide) (by decide) rfl (by decide) ?_
    refine g_sipush (v := (-1000)) hk dX12_count_253 (by decide) ?_
    refine g_istore_n (lv' := [(2, .int (-1000)), (0, .ref (r 0)), (1, .int z1)]) hk dX12_count_256 (by decide) rfl ?_
    refine g_iconst (v := 0) hk dX12_count_257 (by decide) ?_
    refine g_istore_n (lv' := [(3, .int 0), (2, .int (-1000)), (0, .ref (r 0)), (1, .int z1)]) hk dX12_count_258 (by decide) rfl ?_
    have lp27280 : ∀ (n27281 : Nat) (x27209 : Int32) (x27210 : Int32), (0 ≤ x27209.toInt) → (x27209.toInt ≤ 160) → (161 - x27209.toInt < (n27281 : Int)) → (0 < n27281) → GW κ 4 0 0 (wM r g I A L) 259 [(3, .int x27209), (2, .int x27210), (0, .ref (r 0)), (1, .int z1)] [] := by
      intro n27281
      induction n27281 with
      | zero =>
        intro x27209 x27210 h27278 h27279 m27282 m27282z
        exact absurd m27282z (Nat.lt_irrefl 0)
      | succ n27281 ih27283 =>
        intro x27209 x27210 h27278 h27279 m27282 m27282z
        refine g_iload_n hk dX12_count_259 rfl ?_
        refine g_aload_n hk dX12_count_260 rfl ?_
        refine gM_r0_35 hk hin12 (List.mem_cons_of_mem _ (List.mem_append_left _ (List.mem_of_getElem? (i := 0) rfl))) dX12_count_261 ?_
        refine g_iconst (v := 0) hk dX12_count_264 (by decide) ?_
        refine lM_17 (v := (A 17 0)) hk (vp_in_iff.mpr ⟨by decide, by decide⟩) rfl dX12_count_265 ?_
        have f27284 := IvM_s17_0 hIv
        refine g_icmp_ge (tgt := 304) (a := x27209.toInt) (b := (A 17 0).toInt) hk dX12_count_266 (by decide) rfl rfl (fun c27285 => ?_) (fun c27285 => ?_)
        · skip
          refine g_iload_n hk dX12_count_304 rfl ?_
          have b27286l := Int32.le_toInt x27210
          have b27286h := Int32.toInt_lt x27210
          exact g_iret hk hR rfl ⟨x27210, rfl, rfl⟩ dX12_count_305
        · skip
          refine g_aload_n hk dX12_count_269 rfl ?_
          refine g_iload_n hk dX12_count_270 rfl ?_
          refine g_callV (n := 1) hk (j143_X12_isThere l D zt r g I A L x27209 hIv) (SP.same _) (fun _ h => h) (gi_V (List.mem_cons_of_mem _ (List.mem_append_left _ (List.mem_of_getElem? (i := 7) rfl))) (List.mem_cons_of_mem _ (List.mem_append_left _ (List.mem_of_getElem? (i := 8) rfl))) (List.mem_cons_of_mem _ (List.mem_append_left _ (List.mem_of_getElem? (i := 9) rfl))) (List.mem_cons_of_mem _ (List.mem_append_left _ (List.mem_of_getElem? (i := 4) rfl))) (gi_sub (fun w h => (List.mem_cons_of_mem _ (List.mem_append_right _ (List.mem_append_right _ (List.mem_append_right _ (List.mem_append_left _ h)))))) zg_j143_X12_isThere)) rfl rfl rfl (by decide +kernel) ⟨Nat.le_of_ble_eq_true rfl, Nat.le_of_ble_eq_true rfl⟩ 0 rfl rfl rfl rfl (Nat.le_of_ble_eq_true rfl) ⟨Nat.le_of_ble_eq_true rfl, Nat.le_of_ble_eq_true rfl⟩ dX12_count_271 (fun v ty' w' hp hk' => ?_)
          rcases hp with ⟨rfl, rfl⟩ | ⟨c27288, c27289, c27290, c27291, c27292, rfl, rfl⟩
          · skip
            show GW κ 4 0 0 (wM r g I A L) 274 [(3, .int x27209), (2, .int x27210), (0, .ref (r 0)), (1, .int z1)] [.int 0]
            refine g_if_eq (tgt := 298) (a := 0) hk dX12_count_274 (by decide) rfl (fun _ => ?_) (fun z9 => absurd (show (0 : Int) = (0 : Int) from by decide) z9)
            obtain ⟨y27294, ey27294⟩ : ∃ y : Int32, y = x27209 + Int32.ofInt 1 := ⟨_, rfl⟩
            have hy27294 : y27294.toInt = x27209.toInt + 1 := i32_add ey27294 rfl (by decide) (by omega) (by omega)
            refine g_iinc (v := y27294) (lv' := [(3, .int y27294), (2, .int x27210), (0, .ref (r 0)), (1, .int z1)]) hk 0 dX12_count_298 rfl ey27294.symm (by decide) rfl ?_
            refine g_goto (tgt := 259) hk dX12_count_301 (by decide) ?_
            have b27295l := Int32.le_toInt x27210
            have b27295h := Int32.toInt_lt x27210
            exact g_lv (List.forall_mem_cons.mpr ⟨List.mem_of_getElem? (i := 0) rfl, (List.forall_mem_cons.mpr ⟨List.mem_of_getElem? (i := 1) rfl, (List.forall_mem_cons.mpr ⟨List.mem_of_getElem? (i := 2) rfl, (List.forall_mem_cons.mpr ⟨List.mem_of_getElem? (i := 3) rfl, (fun _ h => absurd h List.not_mem_nil)⟩)⟩)⟩)⟩) (ih27283 y27294 x27210 (by omega) (by omega) (by omega) (by omega))
          · skip
            show GW κ 4 0 0 (wM r g I A L) 274 [(3, .int x27209), (2, .int x27210), (0, .ref (r 0)), (1, .int z1)] [.int 1]
            refine g_if_eq (tgt := 298) (a := 1) hk dX12_count_274 (by decide) rfl (fun z9 => absurd z9 (show ¬ ((1 : Int) = (0 : Int)) from by decide)) (fun _ => ?_)
            refine g_aload_n hk dX12_count_277 rfl ?_
            refine gM_r0_35 hk hin12 (List.mem_cons_of_mem _ (List.mem_append_left _ (List.mem_of_getElem? (i := 0) rfl))) dX12_count_278 ?_
            refine g_iconst (v := 1) hk dX12_count_281 (by decide) ?_
            refine g_iload_n hk dX12_count_282 rfl ?_
            refine g_iadd hk dX12_count_283 ?_
            refine g_topi (fun y27296 ey27296 => ?_)
            have hy27296 : y27296.toInt = 1 + x27209.toInt := i32_add ey27296 rfl rfl (by omega) (by omega)
            refine lM_17 (v := (A 17 y27296.toNatClampNeg)) hk (vp_in_iff.mpr ⟨by omega, by omega⟩) rfl dX12_count_284 ?_
            refine g_iload_n hk dX12_count_285 rfl ?_
            have b27297l := Int32.le_toInt (A 17 y27296.toNatClampNeg)
            have b27297h := Int32.toInt_lt (A 17 y27296.toNatClampNeg)
            have b27298l := Int32.le_toInt x27210
            have b27298h := Int32.toInt_lt x27210
            refine g_icmp_le (tgt := 298) (a := (A 17 y27296.toNatClampNeg).toInt) (b := x27210.toInt) hk dX12_count_286 (by decide) rfl rfl (fun c27299 => ?_) (fun c27299 => ?_)
            · skip
              obtain ⟨y27300, ey27300⟩ : ∃ y : Int32, y = x27209 + Int32.ofInt 1 := ⟨_, rfl⟩
              have hy27300 : y27300.toInt = x27209.toInt + 1 := i32_add ey27300 rfl (by decide) (by omega) (by omega)
              refine g_iinc (v := y27300) (lv' := [(3, .int y27300), (2, .int x27210), (0, .ref (r 0)), (1, .int z1)]) hk 0 dX12_count_298 rfl ey27300.symm (by decide) rfl ?_
              refine g_goto (tgt := 259) hk dX12_count_301 (by decide) ?_
              exact g_lv (List.forall_mem_cons.mpr ⟨List.mem_of_getElem? (i := 0) rfl, (List.forall_mem_cons.mpr ⟨List.mem_of_getElem? (i := 1) rfl, (List.forall_mem_cons.mpr ⟨List.mem_of_getElem? (i := 2) rfl, (List.forall_mem_cons.mpr ⟨List.mem_of_getElem? (i := 3) rfl, (fun _ h => absurd h List.not_mem_nil)⟩)⟩)⟩)⟩) (ih27283 y27300 x27210 (by omega) (by omega) (by omega) (by omega))
            · skip
              refine g_aload_n hk dX12_count_289 rfl ?_
              refine gM_r0_35 hk hin12 (List.mem_cons_of_mem _ (List.mem_append_left _ (List.mem_of_getElem? (i := 0) rfl))) dX12_count_290 ?_
              refine g_iconst (v := 1) hk dX12_count_293 (by decide) ?_
              refine g_iload_n hk dX12_count_294 rfl ?_
              refine g_iadd hk dX12_count_295 ?_
              refine g_topi (fun y27301 ey27301 => ?_)
              have hy27301 : y27301.toInt = 1 + x27209.toInt := i32_add ey27301 rfl rfl (by omega) (by omega)
              refine lM_17 (v := (A 17 y27301.toNatClampNeg)) hk (vp_in_iff.mpr ⟨by omega, by omega⟩) rfl dX12_count_296 ?_
              refine g_istore_n (lv' := [(2, .int (A 17 y27301.toNatClampNeg)), (3, .int x27209), (0, .ref (r 0)), (1, .int z1)]) hk dX12_count_297 (by decide) rfl ?_
              obtain ⟨y27302, ey27302⟩ : ∃ y : Int32, y = x27209 + Int32.ofInt 1 := ⟨_, rfl⟩
              have hy27302 : y27302.toInt = x27209.toInt + 1 := i32_add ey27302 rfl (by decide) (by omega) (by omega)
              refine g_iinc (v := y27302) (lv' := [(3, .int y27302), (2, .int (A 17 y27301.toNatClampNeg)), (0, .ref (r 0)), (1, .int z1)]) hk 1 dX12_count_298 rfl ey27302.symm (by decide) rfl ?_
              refine g_goto (tgt := 259) hk dX12_count_301 (by decide) ?_
              have b27303l := Int32.le_toInt (A 17 y27301.toNatClampNeg)
              have b27303h := Int32.toInt_lt (A 17 y27301.toNatClampNeg)
              exact g_lv (List.forall_mem_cons.mpr ⟨List.mem_of_getElem? (i := 0) rfl, (List.forall_mem_cons.mpr ⟨List.mem_of_getElem? (i := 1) rfl, (List.forall_mem_cons.mpr ⟨List.mem_of_getElem? (i := 2) rfl, (List.forall_mem_cons.mpr ⟨List.mem_of_getElem? (i := 3) rfl, (fun _ h => absurd h List.not_mem_nil)⟩)⟩)⟩)⟩) (ih27283 y27302 (A 17 y27301.toNatClampNeg) (by omega) (by omega) (by omega) (by omega))
    have k27304 : (0 : Int32).toInt = 0 := rfl
    have k27305 : ((-1000) : Int32).toInt = (-1000) := rfl
    obtain ⟨n27306, n27306a, n27306b⟩ : ∃ n : Nat, 161 - (0 : Int32).toInt < (n : Int) ∧ 0 < n := ⟨((161 - (0 : Int32).toInt : Int)).toNat + 1, by omega, by omega⟩
    exact lp27280 n27306 0 (-1000) (by omega) (by omega) n27306a n27306b
  by_cases c27307 : z1.toInt = 13
  · refine g_tabIn (tgt := 306) (a := 13) hk dX12_count_3 c27307 (by decide) (by decide) rfl (by decide) ?_
    refine g_ldc (v := 100000) hk (List.mem_cons_of_mem _ (List.mem_append_left _ (List.mem_of_getElem? (i := 13) rfl))) dX12_count_306 ?_
    refine g_istore_n (lv' := [(2, .int 100000), (0, .ref (r 0)), (1, .int z1)]) hk dX12_count_308 (by decide) rfl ?_
    refine g_iconst (v := 0) hk dX12_count_309 (by decide) ?_
    refine g_istore_n (lv' := [(3, .int 0), (2, .int 100000), (0, .ref (r 0)), (1, .int z1)]) hk dX12_count_310 (by decide) rfl ?_
    have lp27353 : ∀ (n27354 : Nat) (x27308 : Int32) (x27309 : Int32), (0 ≤ x27308.toInt) → (x27308.toInt ≤ 160) → (161 - x27308.toInt < (n27354 : Int)) → (0 < n27354) → GW κ 4 0 0 (wM r g I A L) 311 [(3, .int x27308), (2, .int x27309), (0, .ref (r 0)), (1, .int z1)] [] := by
      intro n27354
      induction n27354 with
      | zero =>
        intro x27308 x27309 h27351 h27352 m27355 m27355z
        exact absurd m27355z (Nat.lt_irrefl 0)
      | succ n27354 ih27356 =>
        intro x27308 x27309 h27351 h27352 m27355 m27355z
        refine g_iload_n hk dX12_count_311 rfl ?_
        refine g_aload_n hk dX12_count_312 rfl ?_
        refine gM_r0_35 hk hin12 (List.mem_cons_of_mem _ (List.mem_append_left _ (List.mem_of_getElem? (i := 0) rfl))) dX12_count_313 ?_
        refine g_iconst (v := 0) hk dX12_count_316 (by decide) ?_
        refine lM_17 (v := (A 17 0)) hk (vp_in_iff.mpr ⟨by decide, by decide⟩) rfl dX12_count_317 ?_
        have f27357 := IvM_s17_0 hIv
        refine g_icmp_ge (tgt := 348) (a := x27308.toInt) (b := (A 17 0).toInt) hk dX12_count_318 (by decide) rfl rfl (fun c27358 => ?_) (fun c27358 => ?_)
        · skip
          refine g_iload_n hk dX12_count_348 rfl ?_
          refine g_ldc (v := 100000) hk (List.mem_cons_of_mem _ (List.mem_append_left _ (List.mem_of_getElem? (i := 13) rfl))) dX12_count_349 ?_
          have b27359l := Int32.le_toInt x27309
          have b27359h := Int32.toInt_lt x27309
          refine g_icmp_ne (tgt := 360) (a := x27309.toInt) (b := 100000) hk dX12_count_351 (by decide) rfl rfl (fun c27360 => ?_) (fun c27360 => ?_)
          · skip
            refine g_iload_n hk dX12_count_360 rfl ?_
            exact g_iret hk hR rfl ⟨x27309, rfl, rfl⟩ dX12_count_361
          · skip
            refine g_sipush (v := (-1000)) hk dX12_count_354 (by decide) ?_
            refine g_goto (tgt := 361) hk dX12_count_357 (by decide) ?_
            exact g_iret hk hR rfl ⟨(-1000), rfl, rfl⟩ dX12_count_361
        · skip
          refine g_aload_n hk dX12_count_321 rfl ?_
          refine gM_r0_35 hk hin12 (List.mem_cons_of_mem _ (List.mem_append_left _ (List.mem_of_getElem? (i := 0) rfl))) dX12_count_322 ?_
          refine g_iconst (v := 1) hk dX12_count_325 (by decide) ?_
          refine g_iload_n hk dX12_count_326 rfl ?_
          refine g_iadd hk dX12_count_327 ?_
          refine g_topi (fun y27361 ey27361 => ?_)
          have hy27361 : y27361.toInt = 1 + x27308.toInt := i32_add ey27361 rfl rfl (by omega) (by omega)
          refine lM_17 (v := (A 17 y27361.toNatClampNeg)) hk (vp_in_iff.mpr ⟨by omega, by omega⟩) rfl dX12_count_328 ?_
          refine g_iload_n hk dX12_count_329 rfl ?_
          have b27362l := Int32.le_toInt (A 17 y27361.toNatClampNeg)
          have b27362h := Int32.toInt_lt (A 17 y27361.toNatClampNeg)
          have b27363l := Int32.le_toInt x27309
          have b27363h := Int32.toInt_lt x27309
          refine g_icmp_ge (tgt := 342) (a := (A 17 y27361.toNatClampNeg).toInt) (b := x27309.toInt) hk dX12_count_330 (by decide) rfl rfl (fun c27364 => ?_) (fun c27364 => ?_)
          · skip
            obtain ⟨y27365, ey27365⟩ : ∃ y : Int32, y = x27308 + Int32.ofInt 1 := ⟨_, rfl⟩
            have hy27365 : y27365.toInt = x27308.toInt + 1 := i32_add ey27365 rfl (by decide) (by omega) (by omega)
            refine g_iinc (v := y27365) (lv' := [(3, .int y27365), (2, .int x27309), (0, .ref (r 0)), (1, .int z1)]) hk 0 dX12_count_342 rfl ey27365.symm (by decide) rfl ?_
            refine g_goto (tgt := 311) hk dX12_count_345 (by decide) ?_
            exact g_lv (List.forall_mem_cons.mpr ⟨List.mem_of_getElem? (i := 0) rfl, (List.forall_mem_cons.mpr ⟨List.mem_of_getElem? (i := 1) rfl, (List.forall_mem_cons.mpr ⟨List.mem_of_getElem? (i := 2) rfl, (List.forall_mem_cons.mpr ⟨List.mem_of_getElem? (i := 3) rfl, (fun _ h => absurd h List.not_mem_nil)⟩)⟩)⟩)⟩) (ih27356 y27365 x27309 (by omega) (by omega) (by omega) (by omega))
          · skip
            refine g_aload_n hk dX12_count_333 rfl ?_
            refine gM_r0_35 hk hin12 (List.mem_cons_of_mem _ (List.mem_append_left _ (List.mem_of_getElem? (i := 0) rfl))) dX12_count_334 ?_
            refine g_iconst (v := 1) hk dX12_count_337 (by decide) ?_
            refine g_iload_n hk dX12_count_338 rfl ?_
            refine g_iadd hk dX12_count_339 ?_
            refine g_topi (fun y27366 ey27366 => ?_)
            have hy27366 : y27366.toInt = 1 + x27308.toInt := i32_add ey27366 rfl rfl (by omega) (by omega)
            refine lM_17 (v := (A 17 y27366.toNatClampNeg)) hk (vp_in_iff.mpr ⟨by omega, by omega⟩) rfl dX12_count_340 ?_
            refine g_istore_n (lv' := [(2, .int (A 17 y27366.toNatClampNeg)), (3, .int x27308), (0, .ref (r 0)), (1, .int z1)]) hk dX12_count_341 (by decide) rfl ?_
            obtain ⟨y27367, ey27367⟩ : ∃ y : Int32, y = x27308 + Int32.ofInt 1 := ⟨_, rfl⟩
            have hy27367 : y27367.toInt = x27308.toInt + 1 := i32_add ey27367 rfl (by decide) (by omega) (by omega)
            refine g_iinc (v := y27367) (lv' := [(3, .int y27367), (2, .int (A 17 y27366.toNatClampNeg)), (0, .ref (r 0)), (1, .int z1)]) hk 1 dX12_count_342 rfl ey27367.symm (by decide) rfl ?_
            refine g_goto (tgt := 311) hk dX12_count_345 (by decide) ?_
            have b27368l := Int32.le_toInt (A 17 y27366.toNatClampNeg)
            have b27368h := Int32.toInt_lt (A 17 y27366.toNatClampNeg)
            exact g_lv (List.forall_mem_cons.mpr ⟨List.mem_of_getElem? (i := 0) rfl, (List.forall_mem_cons.mpr ⟨List.mem_of_getElem? (i := 1) rfl, (List.forall_mem_cons.mpr ⟨List.mem_of_getElem? (i := 2) rfl, (List.forall_mem_cons.mpr ⟨List.mem_of_getElem? (i := 3) rfl, (fun _ h => absurd h List.not_mem_nil)⟩)⟩)⟩)⟩) (ih27356 y27367 (A 17 y27366.toNatClampNeg) (by omega) (by omega) (by omega) (by omega))
    have k27369 : (0 : Int32).toInt = 0 := rfl
    have k27370 : (100000 : Int32).toInt = 100000 := rfl
    obtain ⟨n27371, n27371a, n27371b⟩ : ∃ n : Nat, 161 - (0 : Int32).toInt < (n : Int) ∧ 0 < n := ⟨((161 - (0 : Int32).toInt : Int)).toNat + 1, by omega, by omega⟩
    exact lp27353 n27371 0 100000 (by omega) (by omega) n27371a n27371b
  by_cases c27372 : z1.toInt = 14
  · refine g_tabIn (tgt := 362) (a := 14) hk dX12_count_3 c27372 (by decide) (by decide) rfl (by decide) ?_
    have lp27387 : ∀ (n27388 : Nat) (x27373 : Int32), (0 ≤ x27373.toInt) → (x27373.toInt ≤ 160) → (161 - x27373.toInt < (n27388 : Int)) → (0 < n27388) → GW κ 4 0 0 (wM r g I A L) 362 [(2, .int x27373), (0, .ref (r 0)), (1, .int z1)] [] := by
      intro n27388
      induction n27388 with
      | zero =>
        intro x27373 h27385 h27386 m27389 m27389z
        exact absurd m27389z (Nat.lt_irrefl 0)
      | succ n27388 ih27390 =>
        intro x27373 h27385 h27386 m27389 m27389z
        refine g_aload_n hk dX12_count_362 rfl ?_
        refine g_iload_n hk dX12_count_363 rfl ?_
        refine g_callV (n := 1) hk (j143_X12_isThere l D zt r g I A L x27373 hIv) (SP.same _) (fun _ h => h) (gi_V (List.mem_cons_of_mem _ (List.mem_append_left _ (List.mem_of_getElem? (i := 7) rfl))) (List.mem_cons_of_mem _ (List.mem_append_left _ (List.mem_of_getElem? (i := 8) rfl))) (List.mem_cons_of_mem _ (List.mem_append_left _ (List.mem_of_getElem? (i := 9) rfl))) (List.mem_cons_of_mem _ (List.mem_append_left _ (List.mem_of_getElem? (i := 4) rfl))) (gi_sub (fun w h => (List.mem_cons_of_mem _ (List.mem_append_right _ (List.mem_append_right _ (List.mem_append_right _ (List.mem_append_left _ h)))))) zg_j143_X12_isThere)) rfl rfl rfl (by decide +kernel) ⟨Nat.le_of_ble_eq_true rfl, Nat.le_of_ble_eq_true rfl⟩ 0 rfl rfl rfl rfl (Nat.le_of_ble_eq_true rfl) ⟨Nat.le_of_ble_eq_true rfl, Nat.le_of_ble_eq_true rfl⟩ dX12_count_364 (fun v ty' w' hp hk' => ?_)
        rcases hp with ⟨rfl, rfl⟩ | ⟨c27392, c27393, c27394, c27395, c27396, rfl, rfl⟩
        · skip
          show GW κ 4 0 0 (wM r g I A L) 367 [(2, .int x27373), (0, .ref (r 0)), (1, .int z1)] [.int 0]
          refine g_if_eq (tgt := 376) (a := 0) hk dX12_count_367 (by decide) rfl (fun _ => ?_) (fun z9 => absurd (show (0 : Int) = (0 : Int) from by decide) z9)
          refine g_iload_n hk dX12_count_376 rfl ?_
          exact g_iret hk hR rfl ⟨x27373, rfl, rfl⟩ dX12_count_377
        · skip
          show GW κ 4 0 0 (wM r g I A L) 367 [(2, .int x27373), (0, .ref (r 0)), (1, .int z1)] [.int 1]
          refine g_if_eq (tgt := 376) (a := 1) hk dX12_count_367 (by decide) rfl (fun z9 => absurd z9 (show ¬ ((1 : Int) = (0 : Int)) from by decide)) (fun _ => ?_)
          obtain ⟨y27398, ey27398⟩ : ∃ y : Int32, y = x27373 + Int32.ofInt 1 := ⟨_, rfl⟩
          have hy27398 : y27398.toInt = x27373.toInt + 1 := i32_add ey27398 rfl (by decide) (by omega) (by omega)
          refine g_iinc (v := y27398) (lv' := [(2, .int y27398), (0, .ref (r 0)), (1, .int z1)]) hk 0 dX12_count_370 rfl ey27398.symm (by decide) rfl ?_
          refine g_goto (tgt := 362) hk dX12_count_373 (by decide) ?_
          exact g_lv (List.forall_mem_cons.mpr ⟨List.mem_of_getElem? (i := 0) rfl, (List.forall_mem_cons.mpr ⟨List.mem_of_getElem? (i := 1) rfl, (List.forall_mem_cons.mpr ⟨List.mem_of_getElem? (i := 2) rfl, (fun _ h => absurd h List.not_mem_nil)⟩)⟩)⟩) (ih27390 y27398 (by omega) (by omega) (by omega) (by omega))
    have k27399 : (0 : Int32).toInt = 0 := rfl
    obtain ⟨n27400, n27400a, n27400b⟩ : ∃ n : Nat, 161 - (0 : Int32).toInt < (n : Int) ∧ 0 < n := ⟨((161 - (0 : Int32).toInt : Int)).toNat + 1, by omega, by omega⟩
    exact lp27387 n27400 0 (by omega) (by omega) n27400a n27400b
  refine g_tabOut (tgt := 378) (a := z1.toInt) hk dX12_count_3 rfl (by omega) (by decide) ?_
  refine g_iconst (v := (-1)) hk dX12_count_378 (by decide) ?_
  exact g_iret hk hR rfl ⟨(-1), rfl, rfl⟩ dX12_count_379
