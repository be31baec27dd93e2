def wo_j204_X12_lean : List Cond := [Cond.methodLink RX12 342 yX12_isOf, Cond.instanceMethod yX12_isOf, Cond.selects RX12 yX12_isOf yX12_isOf, Cond.initialized RX12, Cond.methodLink RX12 244 yX12_in, Cond.static yX12_in, Cond.methodLink RX12 323 yX12_copies, Cond.instanceMethod yX12_copies, Cond.selects RX12 yX12_copies yX12_copies, Cond.methodLink RX12 345 yX12_distanceOf, Cond.instanceMethod yX12_distanceOf, Cond.selects RX12 yX12_distanceOf yX12_distanceOf, Cond.methodLink RX12 354 yX12_fillsWay, Cond.instanceMethod yX12_fillsWay, Cond.selects RX12 yX12_fillsWay yX12_fillsWay, Cond.fieldLink RX12 351 "WarpDeskModel" "wayMany" "I", Cond.fieldLink RX12 88 "WarpDeskModel" "wayAt" "[I"]
def wz_j204_X12_lean : List Cond := .code yX12_lean cX12_lean 8 (some .int) :: (wo_j204_X12_lean ++ (wsX120 ++ (wz_j168_X12_isOf ++ (wz_j145_X12_in ++ (wz_j151_X12_copies ++ (wz_j169_X12_distanceOf ++ (wz_j195_X12_fillsWay ++ ([] : List Cond))))))))
theorem zg_j204_X12_lean : ∀ w ∈ wz_j204_X12_lean, goodWord w = true := zg_cons rfl (zg_app (by decide +kernel) (zg_app zgU_wsX120 (zg_app zg_j168_X12_isOf (zg_app zg_j145_X12_in (zg_app zg_j151_X12_copies (zg_app zg_j169_X12_distanceOf (zg_app zg_j195_X12_fillsWay zg_nil)))))))
theorem zi_j204_X12_lean : ∀ w ∈ wz_j204_X12_lean, w ∈ lw_tbl := zi_cons zw_1839 (zi_app (zi_cons zw_1755 (zi_cons zw_1757 (zi_cons zw_78 (zi_cons zw_115 (zi_cons zw_1656 (zi_cons zw_1657 (zi_cons zw_1679 (zi_cons zw_1681 (zi_cons zw_70 (zi_cons zw_1759 (zi_cons zw_1761 (zi_cons zw_79 (zi_cons zw_1832 (zi_cons zw_1834 (zi_cons zw_92 (zi_cons zw_1425 (zi_cons zw_1424 zi_nil))))))))))))))))) (zi_app inX12 (zi_app zi_j168_X12_isOf (zi_app zi_j145_X12_in (zi_app zi_j151_X12_copies (zi_app zi_j169_X12_distanceOf (zi_app zi_j195_X12_fillsWay zi_nil)))))))
set_option maxHeartbeats 4000000 in
set_option maxRecDepth 100000 in
theorem j204_X12_lean (l : Launch) (D : va_G) (zt : Nat × Nat × Nat × (Nat → Nat) × (Nat → Nat)) (r : Nat → Nat) (g : Nat → ClassId) (I : Nat → Int32) (A : Nat → Nat → Int32) (L : Nat → Nat → Int64) (z1 : Int32) (z2 : Int32) (z3 : Int32) (hIv : IvM I A) : GM l D zt (tyM g) yX12_lean wz_j204_X12_lean ({ frames := 6, cells := 0, slots := 0, locals := 134 } : Room) [.ref (r 0), .int z1, .int z2, .int z3] (wM r g I A L) (fun v _ w' => ∃ (I' : Nat → Int32) (A' : Nat → Nat → Int32) (L' : Nat → Nat → Int64), Md [18, 19, 20, 23] I I' ∧ Md [18, 19, 20, 21, 23] A A' ∧ IvM I' A' ∧ ∃ y0 : Int32, v = some (.int y0) ∧ w' = wM r g I' A' L') 0 0 := by
  refine GM.of (cc := cX12_lean) (maxL := 8) (ret := (some .int)) (own := RX12) (lv := [(0, .ref (r 0)), (1, .int z1), (2, .int z2), (3, .int z3)]) (by decide) rfl rfl (Nat.le_of_ble_eq_true rfl) rfl (fun κ sz hk hR hN => ?_)
  have hin12 : ∀ w ∈ u_ws RX12 TX12 55, w ∈ wz_j204_X12_lean := fun w h => (List.mem_cons_of_mem _ (List.mem_append_right _ (List.mem_append_left _ h)))
  refine g_aload_n hk dX12_lean_0 rfl ?_
  refine g_iload_n hk dX12_lean_1 rfl ?_
  refine g_iload_n hk dX12_lean_2 rfl ?_
  refine g_callV (n := 2) hk (j168_X12_isOf l D zt r g I A L z1 z2 hIv) (SP.same _) (fun _ h => h) (gi_V (List.mem_cons_of_mem _ (List.mem_append_left _ (List.mem_of_getElem? (i := 0) rfl))) (List.mem_cons_of_mem _ (List.mem_append_left _ (List.mem_of_getElem? (i := 1) rfl))) (List.mem_cons_of_mem _ (List.mem_append_left _ (List.mem_of_getElem? (i := 2) rfl))) (List.mem_cons_of_mem _ (List.mem_append_left _ (List.mem_of_getElem? (i := 3) rfl))) (gi_sub (fun w h => (List.mem_cons_of_mem _ (List.mem_append_right _ (List.mem_append_right _ (List.mem_append_left _ h))))) zg_j168_X12_isOf)) rfl rfl rfl (by decide +kernel) ⟨Nat.le_of_ble_eq_true rfl, Nat.le_of_ble_eq_true rfl⟩ 0 rfl rfl rfl rfl (Nat.le_of_ble_eq_true rfl) ⟨Nat.le_of_ble_eq_true rfl, Nat.le_of_ble_eq_true rfl⟩ dX12_lean_3 (fun v ty' w' hp hk' => ?_)
  rcases hp with ⟨rfl, rfl⟩ | ⟨c24885, c24886, c24887, c24888, c24889, c24890, c24891, c24892, c24893, rfl, rfl⟩
  · skip
    show GW κ 8 0 0 (wM r g I A L) 6 [(0, .ref (r 0)), (1, .int z1), (2, .int z2), (3, .int z3)] [.int 0]
    refine g_if_eq (tgt := 18) (a := 0) hk dX12_lean_6 (by decide) rfl (fun _ => ?_) (fun z9 => absurd (show (0 : Int) = (0 : Int) from by decide) z9)
    refine g_iconst (v := (-1)) hk dX12_lean_18 (by decide) ?_
    exact g_iret hk hR rfl ⟨I, A, L, (show Md [18, 19, 20, 23] I I from Md.rf), (show Md [18, 19, 20, 21, 23] A A from Md.rf), hIv, (-1), rfl, rfl⟩ dX12_lean_19
  · skip
    have f24895 : 0 ≤ (A 11 (5 * (I 15) + z1).toNatClampNeg).toInt ∧ (A 11 (5 * (I 15) + z1).toNatClampNeg).toInt ≤ 16 := IvM_a11 hIv _
    show GW κ 8 0 0 (wM r g I A L) 6 [(0, .ref (r 0)), (1, .int z1), (2, .int z2), (3, .int z3)] [.int 1]
    refine g_if_eq (tgt := 18) (a := 1) hk dX12_lean_6 (by decide) rfl (fun z9 => absurd z9 (show ¬ ((1 : Int) = (0 : Int)) from by decide)) (fun _ => ?_)
    refine g_iload_n hk dX12_lean_9 rfl ?_
    refine g_iconst (v := 0) hk dX12_lean_10 (by decide) ?_
    refine g_iconst (v := 1) hk dX12_lean_11 (by decide) ?_
    have k24896 : (0 : Int32).toInt = 0 := rfl
    have k24897 : (1 : Int32).toInt = 1 := rfl
    refine g_callS (n := 3) hk (j145_X12_in l D zt r g I A L z3 0 1 hIv) (SP.same _) (fun _ h => h) (gi_S (List.mem_cons_of_mem _ (List.mem_append_left _ (List.mem_of_getElem? (i := 4) rfl))) (List.mem_cons_of_mem _ (List.mem_append_left _ (List.mem_of_getElem? (i := 5) rfl))) (List.mem_cons_of_mem _ (List.mem_append_left _ (List.mem_of_getElem? (i := 3) rfl))) (gi_sub (fun w h => (List.mem_cons_of_mem _ (List.mem_append_right _ (List.mem_append_right _ (List.mem_append_right _ (List.mem_append_left _ h)))))) zg_j145_X12_in)) rfl rfl rfl (by decide +kernel) ⟨Nat.le_of_ble_eq_true rfl, Nat.le_of_ble_eq_true rfl⟩ rfl rfl (Nat.le_of_ble_eq_true rfl) ⟨Nat.le_of_ble_eq_true rfl, Nat.le_of_ble_eq_true rfl⟩ dX12_lean_12 (fun v ty' w' hp hk' => ?_)
    rcases hp with ⟨c24898, rfl, rfl⟩ | ⟨c24900, c24901, rfl, rfl⟩
    · skip
      have b24903l := Int32.le_toInt z3
      have b24903h := Int32.toInt_lt z3
      show GW κ 8 0 0 (wM r g I A L) 15 [(0, .ref (r 0)), (1, .int z1), (2, .int z2), (3, .int z3)] [.int 0]
      refine g_if_ne (tgt := 20) (a := 0) hk dX12_lean_15 (by decide) rfl (fun z9 => absurd z9 (show ¬ ((0 : Int) ≠ (0 : Int)) from by decide)) (fun _ => ?_)
      refine g_iconst (v := (-1)) hk dX12_lean_18 (by decide) ?_
      exact g_iret hk hR rfl ⟨I, A, L, (show Md [18, 19, 20, 23] I I from Md.rf), (show Md [18, 19, 20, 21, 23] A A from Md.rf), hIv, (-1), rfl, rfl⟩ dX12_lean_19
    · skip
      show GW κ 8 0 0 (wM r g I A L) 15 [(0, .ref (r 0)), (1, .int z1), (2, .int z2), (3, .int z3)] [.int 1]
      refine g_if_ne (tgt := 20) (a := 1) hk dX12_lean_15 (by decide) rfl (fun _ => ?_) (fun z9 => absurd (show (1 : Int) ≠ (0 : Int) from by decide) z9)
      refine g_aload_n hk dX12_lean_20 rfl ?_
      refine g_callV (n := 0) hk (j151_X12_copies l D zt r g I A L  hIv) (SP.same _) (fun _ h => h) (gi_V (List.mem_cons_of_mem _ (List.mem_append_left _ (List.mem_of_getElem? (i := 6) rfl))) (List.mem_cons_of_mem _ (List.mem_append_left _ (List.mem_of_getElem? (i := 7) rfl))) (List.mem_cons_of_mem _ (List.mem_append_left _ (List.mem_of_getElem? (i := 8) rfl))) (List.mem_cons_of_mem _ (List.mem_append_left _ (List.mem_of_getElem? (i := 3) rfl))) (gi_sub (fun w h => (List.mem_cons_of_mem _ (List.mem_append_right _ (List.mem_append_right _ (List.mem_append_right _ (List.mem_append_right _ (List.mem_append_left _ h))))))) zg_j151_X12_copies)) rfl rfl rfl (by decide +kernel) ⟨Nat.le_of_ble_eq_true rfl, Nat.le_of_ble_eq_true rfl⟩ 0 rfl rfl rfl rfl (Nat.le_of_ble_eq_true rfl) ⟨Nat.le_of_ble_eq_true rfl, Nat.le_of_ble_eq_true rfl⟩ dX12_lean_21 (fun v ty' w' hp hk' => ?_)
      obtain ⟨I24905, A24905, L24905, hI24905, hA24905, hV24905, r24906, r24907, rfl, rfl⟩ := hp
      have f24908 := IvM_s17_0 hIv
      have f24909 := IvM_s17_164 hIv
      show GW κ 8 0 0 (wM r g I24905 A24905 L24905) 24 [(0, .ref (r 0)), (1, .int z1), (2, .int z2), (3, .int z3)] []
      refine g_aload_n hk dX12_lean_24 rfl ?_
      refine g_iload_n hk dX12_lean_25 rfl ?_
      refine g_iload_n hk dX12_lean_26 rfl ?_
      refine g_callV (n := 2) hk (j169_X12_distanceOf l D zt r g I24905 A24905 L24905 z1 z2 hV24905 (by omega) (by omega) (by omega) (by omega) (by first | (rw [show (A24905 11 (5 * (I24905 15) + z1).toNatClampNeg) = (A 11 (5 * (I 15) + z1).toNatClampNeg) from (by rw [show I24905 15 = (I 15) from (hI24905 15 rfl)]; exact (congrFun (hA24905 11 rfl) _))] <;> omega) | omega) (by first | (rw [show (A24905 11 (5 * (I24905 15) + z1).toNatClampNeg) = (A 11 (5 * (I 15) + z1).toNatClampNeg) from (by rw [show I24905 15 = (I 15) from (hI24905 15 rfl)]; exact (congrFun (hA24905 11 rfl) _))] <;> omega) | omega)) (SP.same _) (fun _ h => h) (gi_V (List.mem_cons_of_mem _ (List.mem_append_left _ (List.mem_of_getElem? (i := 9) rfl))) (List.mem_cons_of_mem _ (List.mem_append_left _ (List.mem_of_getElem? (i := 10) rfl))) (List.mem_cons_of_mem _ (List.mem_append_left _ (List.mem_of_getElem? (i := 11) rfl))) (List.mem_cons_of_mem _ (List.mem_append_left _ (List.mem_of_getElem? (i := 3) rfl))) (gi_sub (fun w h => (List.mem_cons_of_mem _ (List.mem_append_right _ (List.mem_append_right _ (List.mem_append_right _ (List.mem_append_right _ (List.mem_append_right _ (List.mem_append_left _ h)))))))) zg_j169_X12_distanceOf)) rfl rfl rfl (by decide +kernel) ⟨Nat.le_of_ble_eq_true rfl, Nat.le_of_ble_eq_true rfl⟩ 0 rfl rfl rfl rfl (Nat.le_of_ble_eq_true rfl) ⟨Nat.le_of_ble_eq_true rfl, Nat.le_of_ble_eq_true rfl⟩ dX12_lean_27 (fun v ty' w' hp hk' => ?_)
      obtain ⟨I24911, A24911, L24911, hI24911, hA24911, hV24911, y24910, r24912, rfl, rfl⟩ := hp
      have f24913 := IvM_f18 hV24911
      show GW κ 8 0 0 (wM r g I24911 A24911 L24911) 30 [(0, .ref (r 0)), (1, .int z1), (2, .int z2), (3, .int z3)] [.int y24910]
      refine g_pop hk dX12_lean_30 rfl ?_
      refine g_aload_n hk dX12_lean_31 rfl ?_
      refine g_callV (n := 0) hk (j195_X12_fillsWay l D zt r g I24911 A24911 L24911  hV24911) (SP.same _) (fun _ h => h) (gi_V (List.mem_cons_of_mem _ (List.mem_append_left _ (List.mem_of_getElem? (i := 12) rfl))) (List.mem_cons_of_mem _ (List.mem_append_left _ (List.mem_of_getElem? (i := 13) rfl))) (List.mem_cons_of_mem _ (List.mem_append_left _ (List.mem_of_getElem? (i := 14) rfl))) (List.mem_cons_of_mem _ (List.mem_append_left _ (List.mem_of_getElem? (i := 3) rfl))) (gi_sub (fun w h => (List.mem_cons_of_mem _ (List.mem_append_right _ (List.mem_append_right _ (List.mem_append_right _ (List.mem_append_right _ (List.mem_append_right _ (List.mem_append_right _ (List.mem_append_left _ h))))))))) zg_j195_X12_fillsWay)) rfl rfl rfl (by decide +kernel) ⟨Nat.le_of_ble_eq_true rfl, Nat.le_of_ble_eq_true rfl⟩ 0 rfl rfl rfl rfl (Nat.le_of_ble_eq_true rfl) ⟨Nat.le_of_ble_eq_true rfl, Nat.le_of_ble_eq_true rfl⟩ dX12_lean_32 (fun v ty' w' hp hk' => ?_)
      obtain ⟨I24915, A24915, L24915, hI24915, hA24915, hV24915, rfl, rfl⟩ := hp
      show GW κ 8 0 0 (wM r g I24915 A24915 L24915) 35 [(0, .ref (r 0)), (1, .int z1), (2, .int z2), (3, .int z3)] []
      refine g_iconst (v := 0) hk dX12_lean_35 (by decide) ?_
      refine g_istore (lv' := [(4, .int 0), (0, .ref (r 0)), (1, .int z1), (2, .int z2), (3, .int z3)]) hk dX12_lean_36 (by decide) rfl ?_
      refine g_iconst (v := 0) hk dX12_lean_38 (by decide) ?_
      refine g_istore (lv' := [(5, .int 0), (4, .int 0), (0, .ref (r 0)), (1, .int z1), (2, .int z2), (3, .int z3)]) hk dX12_lean_39 (by decide) rfl ?_
      refine g_iconst (v := 0) hk dX12_lean_41 (by decide) ?_
      refine g_istore (lv' := [(6, .int 0), (5, .int 0), (4, .int 0), (0, .ref (r 0)), (1, .int z1), (2, .int z2), (3, .int z3)]) hk dX12_lean_42 (by decide) rfl ?_
      have lp25251 : ∀ (n25252 : Nat) (x24916 : Int32) (x24917 : Int32) (x24918 : Int32), (0 ≤ x24916.toInt) → (x24916.toInt ≤ 40) → (0 ≤ x24918.toInt) → (41 - x24916.toInt < (n25252 : Int)) → (0 < n25252) → GW κ 8 0 0 (wM r g I24915 A24915 L24915) 44 [(6, .int x24916), (5, .int x24917), (4, .int x24918), (0, .ref (r 0)), (1, .int z1), (2, .int z2), (3, .int z3)] [] := by
        intro n25252
        induction n25252 with
        | zero =>
          intro x24916 x24917 x24918 h25248 h25249 h25250 m25253 m25253z
          exact absurd m25253z (Nat.lt_irrefl 0)
        | succ n25252 ih25254 =>
          intro x24916 x24917 x24918 h25248 h25249 h25250 m25253 m25253z
          refine g_iload hk dX12_lean_44 rfl ?_
          refine g_aload_n hk dX12_lean_46 rfl ?_
          refine gM_i23 (v := (I24915 23)) hk hin12 (List.mem_cons_of_mem _ (List.mem_append_left _ (List.mem_of_getElem? (i := 15) rfl))) dX12_lean_47 rfl ?_
          have f25255 := IvM_f23 hV24915
          refine g_icmp_ge (tgt := 133) (a := x24916.toInt) (b := (I24915 23).toInt) hk dX12_lean_50 (by decide) rfl rfl (fun c25256 => ?_) (fun c25256 => ?_)
          · skip
            refine g_iload_n hk dX12_lean_133 rfl ?_
            refine g_if_ne (tgt := 142) (a := z3.toInt) hk dX12_lean_134 (by decide) rfl (fun c25257 => ?_) (fun c25257 => ?_)
            · skip
              refine g_iload hk dX12_lean_142 rfl ?_
              have b25258l := Int32.le_toInt x24917
              have b25258h := Int32.toInt_lt x24917
              exact g_iret hk hR rfl ⟨I24915, A24915, L24915, (show Md [18, 19, 20, 23] I I24915 from (Md.tr (Md.tr (Md.tr Md.rf hI24905 rfl) hI24911 rfl) hI24915 rfl)), (show Md [18, 19, 20, 21, 23] A A24915 from (Md.tr (Md.tr (Md.tr Md.rf hA24905 rfl) hA24911 rfl) hA24915 rfl)), hV24915, x24917, rfl, rfl⟩ dX12_lean_144
            · skip
              refine g_iload hk dX12_lean_137 rfl ?_
              refine g_goto (tgt := 144) hk dX12_lean_139 (by decide) ?_
              have b25259l := Int32.le_toInt x24918
              have b25259h := Int32.toInt_lt x24918
              exact g_iret hk hR rfl ⟨I24915, A24915, L24915, (show Md [18, 19, 20, 23] I I24915 from (Md.tr (Md.tr (Md.tr Md.rf hI24905 rfl) hI24911 rfl) hI24915 rfl)), (show Md [18, 19, 20, 21, 23] A A24915 from (Md.tr (Md.tr (Md.tr Md.rf hA24905 rfl) hA24911 rfl) hA24915 rfl)), hV24915, x24918, rfl, rfl⟩ dX12_lean_144
          · skip
            refine g_aload_n hk dX12_lean_53 rfl ?_
            refine gM_r0_46 hk hin12 (List.mem_cons_of_mem _ (List.mem_append_left _ (List.mem_of_getElem? (i := 16) rfl))) dX12_lean_54 ?_
            refine g_iload hk dX12_lean_57 rfl ?_
            refine lM_23 (v := (A24915 23 x24916.toNatClampNeg)) hk (vp_in_iff.mpr ⟨by omega, by omega⟩) rfl dX12_lean_59 ?_
            refine g_bipush (v := 100) hk dX12_lean_60 (by decide) ?_
            refine g_idiv hk dX12_lean_62 (by decide) ?_
            refine g_topi (fun y25260 ey25260 => ?_)
            refine g_aload_n hk dX12_lean_63 rfl ?_
            refine gM_r0_46 hk hin12 (List.mem_cons_of_mem _ (List.mem_append_left _ (List.mem_of_getElem? (i := 16) rfl))) dX12_lean_64 ?_
            refine g_iload hk dX12_lean_67 rfl ?_
            refine lM_23 (v := (A24915 23 x24916.toNatClampNeg)) hk (vp_in_iff.mpr ⟨by omega, by omega⟩) rfl dX12_lean_69 ?_
            refine g_bipush (v := 100) hk dX12_lean_70 (by decide) ?_
            refine g_irem hk dX12_lean_72 (by decide) ?_
            refine g_topi (fun y25261 ey25261 => ?_)
            have b25262l := Int32.le_toInt y25260
            have b25262h := Int32.toInt_lt y25260
            have b25263l := Int32.le_toInt y25261
            have b25263h := Int32.toInt_lt y25261
            refine g_isub hk dX12_lean_73 ?_
            refine g_topi (fun y25264 ey25264 => ?_)
            have hy25264 := i32_sub0 ey25264
            refine g_istore (lv' := [(7, .int y25264), (6, .int x24916), (5, .int x24917), (4, .int x24918), (0, .ref (r 0)), (1, .int z1), (2, .int z2), (3, .int z3)]) hk dX12_lean_74 (by decide) rfl ?_
            refine g_iload hk dX12_lean_76 rfl ?_
            have b25265l := Int32.le_toInt y25264
            have b25265h := Int32.toInt_lt y25264
            refine g_if_ge (tgt := 86) (a := y25264.toInt) hk dX12_lean_78 (by decide) rfl (fun c25266 => ?_) (fun c25266 => ?_)
            · skip
              refine g_iload hk dX12_lean_86 rfl ?_
              refine g_iload hk dX12_lean_88 rfl ?_
              have b25267l := Int32.le_toInt x24918
              have b25267h := Int32.toInt_lt x24918
              refine g_icmp_le (tgt := 97) (a := y25264.toInt) (b := x24918.toInt) hk dX12_lean_90 (by decide) rfl rfl (fun c25268 => ?_) (fun c25268 => ?_)
              · skip
                refine g_iload hk dX12_lean_97 rfl ?_
                refine g_if_le (tgt := 127) (a := x24916.toInt) hk dX12_lean_99 (by decide) rfl (fun c25269 => ?_) (fun c25269 => ?_)
                · skip
                  obtain ⟨y25270, ey25270⟩ : ∃ y : Int32, y = x24916 + Int32.ofInt 1 := ⟨_, rfl⟩
                  have hy25270 : y25270.toInt = x24916.toInt + 1 := i32_add ey25270 rfl (by decide) (by omega) (by omega)
                  refine g_iinc (v := y25270) (lv' := [(6, .int y25270), (7, .int y25264), (5, .int x24917), (4, .int x24918), (0, .ref (r 0)), (1, .int z1), (2, .int z2), (3, .int z3)]) hk 1 dX12_lean_127 rfl ey25270.symm (by decide) rfl ?_
                  refine g_goto (tgt := 44) hk dX12_lean_130 (by decide) ?_
                  have b25271l := Int32.le_toInt x24917
                  have b25271h := Int32.toInt_lt x24917
                  exact g_lv (List.forall_mem_cons.mpr ⟨List.mem_of_getElem? (i := 0) rfl, (List.forall_mem_cons.mpr ⟨List.mem_of_getElem? (i := 2) rfl, (List.forall_mem_cons.mpr ⟨List.mem_of_getElem? (i := 3) rfl, (List.forall_mem_cons.mpr ⟨List.mem_of_getElem? (i := 4) rfl, (List.forall_mem_cons.mpr ⟨List.mem_of_getElem? (i := 5) rfl, (List.forall_mem_cons.mpr ⟨List.mem_of_getElem? (i := 6) rfl, (List.forall_mem_cons.mpr ⟨List.mem_of_getElem? (i := 7) rfl, (fun _ h => absurd h List.not_mem_nil)⟩)⟩)⟩)⟩)⟩)⟩)⟩) (ih25254 y25270 x24917 x24918 (by omega) (by omega) (by omega) (by omega) (by omega))
                · skip
                  refine g_aload_n hk dX12_lean_102 rfl ?_
                  refine gM_r0_46 hk hin12 (List.mem_cons_of_mem _ (List.mem_append_left _ (List.mem_of_getElem? (i := 16) rfl))) dX12_lean_103 ?_
                  refine g_iload hk dX12_lean_106 rfl ?_
                  refine g_iconst (v := 1) hk dX12_lean_108 (by decide) ?_
                  refine g_isub hk dX12_lean_109 ?_
                  refine g_topi (fun y25272 ey25272 => ?_)
                  have hy25272 : y25272.toInt = x24916.toInt - 1 := i32_sub ey25272 rfl rfl (by omega) (by omega)
                  refine lM_23 (v := (A24915 23 y25272.toNatClampNeg)) hk (vp_in_iff.mpr ⟨by omega, by omega⟩) rfl dX12_lean_110 ?_
                  refine g_aload_n hk dX12_lean_111 rfl ?_
                  refine gM_r0_46 hk hin12 (List.mem_cons_of_mem _ (List.mem_append_left _ (List.mem_of_getElem? (i := 16) rfl))) dX12_lean_112 ?_
                  refine g_iload hk dX12_lean_115 rfl ?_
                  refine lM_23 (v := (A24915 23 x24916.toNatClampNeg)) hk (vp_in_iff.mpr ⟨by omega, by omega⟩) rfl dX12_lean_117 ?_
                  have b25273l := Int32.le_toInt (A24915 23 y25272.toNatClampNeg)
                  have b25273h := Int32.toInt_lt (A24915 23 y25272.toNatClampNeg)
                  have b25274l := Int32.le_toInt (A24915 23 x24916.toNatClampNeg)
                  have b25274h := Int32.toInt_lt (A24915 23 x24916.toNatClampNeg)
                  refine g_isub hk dX12_lean_118 ?_
                  refine g_topi (fun y25275 ey25275 => ?_)
                  have hy25275 := i32_sub0 ey25275
                  refine g_bipush (v := 101) hk dX12_lean_119 (by decide) ?_
                  have b25276l := Int32.le_toInt y25275
                  have b25276h := Int32.toInt_lt y25275
                  refine g_icmp_ne (tgt := 127) (a := y25275.toInt) (b := 101) hk dX12_lean_121 (by decide) rfl rfl (fun c25277 => ?_) (fun c25277 => ?_)
                  · skip
                    obtain ⟨y25278, ey25278⟩ : ∃ y : Int32, y = x24916 + Int32.ofInt 1 := ⟨_, rfl⟩
                    have hy25278 : y25278.toInt = x24916.toInt + 1 := i32_add ey25278 rfl (by decide) (by omega) (by omega)
                    refine g_iinc (v := y25278) (lv' := [(6, .int y25278), (7, .int y25264), (5, .int x24917), (4, .int x24918), (0, .ref (r 0)), (1, .int z1), (2, .int z2), (3, .int z3)]) hk 1 dX12_lean_127 rfl ey25278.symm (by decide) rfl ?_
                    refine g_goto (tgt := 44) hk dX12_lean_130 (by decide) ?_
                    have b25279l := Int32.le_toInt x24917
                    have b25279h := Int32.toInt_lt x24917
                    exact g_lv (List.forall_mem_cons.mpr ⟨List.mem_of_getElem? (i := 0) rfl, (List.forall_mem_cons.mpr ⟨List.mem_of_getElem? (i := 2) rfl, (List.forall_mem_cons.mpr ⟨List.mem_of_getElem? (i := 3) rfl, (List.forall_mem_cons.mpr ⟨List.mem_of_getElem? (i := 4) rfl, (List.forall_mem_cons.mpr ⟨List.mem_of_getElem? (i := 5) rfl, (List.forall_mem_cons.mpr ⟨List.mem_of_getElem? (i := 6) rfl, (List.forall_mem_cons.mpr ⟨List.mem_of_getElem? (i := 7) rfl, (fun _ h => absurd h List.not_mem_nil)⟩)⟩)⟩)⟩)⟩)⟩)⟩) (ih25254 y25278 x24917 x24918 (by omega) (by omega) (by omega) (by omega) (by omega))
                  · skip
                    have b25280l := Int32.le_toInt x24917
                    have b25280h := Int32.toInt_lt x24917
                    obtain ⟨y25281, ey25281⟩ : ∃ y : Int32, y = x24917 + Int32.ofInt 1 := ⟨_, rfl⟩
                    refine g_iinc (v := y25281) (lv' := [(5, .int y25281), (7, .int y25264), (6, .int x24916), (4, .int x24918), (0, .ref (r 0)), (1, .int z1), (2, .int z2), (3, .int z3)]) hk 2 dX12_lean_124 rfl ey25281.symm (by decide) rfl ?_
                    obtain ⟨y25282, ey25282⟩ : ∃ y : Int32, y = x24916 + Int32.ofInt 1 := ⟨_, rfl⟩
                    have hy25282 : y25282.toInt = x24916.toInt + 1 := i32_add ey25282 rfl (by decide) (by omega) (by omega)
                    refine g_iinc (v := y25282) (lv' := [(6, .int y25282), (5, .int y25281), (7, .int y25264), (4, .int x24918), (0, .ref (r 0)), (1, .int z1), (2, .int z2), (3, .int z3)]) hk 2 dX12_lean_127 rfl ey25282.symm (by decide) rfl ?_
                    refine g_goto (tgt := 44) hk dX12_lean_130 (by decide) ?_
                    have b25283l := Int32.le_toInt y25281
                    have b25283h := Int32.toInt_lt y25281
                    exact g_lv (List.forall_mem_cons.mpr ⟨List.mem_of_getElem? (i := 0) rfl, (List.forall_mem_cons.mpr ⟨List.mem_of_getElem? (i := 1) rfl, (List.forall_mem_cons.mpr ⟨List.mem_of_getElem? (i := 3) rfl, (List.forall_mem_cons.mpr ⟨List.mem_of_getElem? (i := 4) rfl, (List.forall_mem_cons.mpr ⟨List.mem_of_getElem? (i := 5) rfl, (List.forall_mem_cons.mpr ⟨List.mem_of_getElem? (i := 6) rfl, (List.forall_mem_cons.mpr ⟨List.mem_of_getElem? (i := 7) rfl, (fun _ h => absurd h List.not_mem_nil)⟩)⟩)⟩)⟩)⟩)⟩)⟩) (ih25254 y25282 y25281 x24918 (by omega) (by omega) (by omega) (by omega) (by omega))
              · skip
                refine g_iload hk dX12_lean_93 rfl ?_
                refine g_istore (lv' := [(4, .int y25264), (7, .int y25264), (6, .int x24916), (5, .int x24917), (0, .ref (r 0)), (1, .int z1), (2, .int z2), (3, .int z3)]) hk dX12_lean_95 (by decide) rfl ?_
                refine g_iload hk dX12_lean_97 rfl ?_
                refine g_if_le (tgt := 127) (a := x24916.toInt) hk dX12_lean_99 (by decide) rfl (fun c25284 => ?_) (fun c25284 => ?_)
                · skip
                  obtain ⟨y25285, ey25285⟩ : ∃ y : Int32, y = x24916 + Int32.ofInt 1 := ⟨_, rfl⟩
                  have hy25285 : y25285.toInt = x24916.toInt + 1 := i32_add ey25285 rfl (by decide) (by omega) (by omega)
                  refine g_iinc (v := y25285) (lv' := [(6, .int y25285), (4, .int y25264), (7, .int y25264), (5, .int x24917), (0, .ref (r 0)), (1, .int z1), (2, .int z2), (3, .int z3)]) hk 2 dX12_lean_127 rfl ey25285.symm (by decide) rfl ?_
                  refine g_goto (tgt := 44) hk dX12_lean_130 (by decide) ?_
                  have b25286l := Int32.le_toInt x24917
                  have b25286h := Int32.toInt_lt x24917
                  exact g_lv (List.forall_mem_cons.mpr ⟨List.mem_of_getElem? (i := 0) rfl, (List.forall_mem_cons.mpr ⟨List.mem_of_getElem? (i := 3) rfl, (List.forall_mem_cons.mpr ⟨List.mem_of_getElem? (i := 1) rfl, (List.forall_mem_cons.mpr ⟨List.mem_of_getElem? (i := 4) rfl, (List.forall_mem_cons.mpr ⟨List.mem_of_getElem? (i := 5) rfl, (List.forall_mem_cons.mpr ⟨List.mem_of_getElem? (i := 6) rfl, (List.forall_mem_cons.mpr ⟨List.mem_of_getElem? (i := 7) rfl, (fun _ h => absurd h List.not_mem_nil)⟩)⟩)⟩)⟩)⟩)⟩)⟩) (ih25254 y25285 x24917 y25264 (by omega) (by omega) (by omega) (by omega) (by omega))
                · skip
                  refine g_aload_n hk dX12_lean_102 rfl ?_
                  refine gM_r0_46 hk hin12 (List.mem_cons_of_mem _ (List.mem_append_left _ (List.mem_of_getElem? (i := 16) rfl))) dX12_lean_103 ?_
                  refine g_iload hk dX12_lean_106 rfl ?_
                  refine g_iconst (v := 1) hk dX12_lean_108 (by decide) ?_
                  refine g_isub hk dX12_lean_109 ?_
                  refine g_topi (fun y25287 ey25287 => ?_)
                  have hy25287 : y25287.toInt = x24916.toInt - 1 := i32_sub ey25287 rfl rfl (by omega) (by omega)
                  refine lM_23 (v := (A24915 23 y25287.toNatClampNeg)) hk (vp_in_iff.mpr ⟨by omega, by omega⟩) rfl dX12_lean_110 ?_
                  refine g_aload_n hk dX12_lean_111 rfl ?_
                  refine gM_r0_46 hk hin12 (List.mem_cons_of_mem _ (List.mem_append_left _ (List.mem_of_getElem? (i := 16) rfl))) dX12_lean_112 ?_
                  refine g_iload hk dX12_lean_115 rfl ?_
                  refine lM_23 (v := (A24915 23 x24916.toNatClampNeg)) hk (vp_in_iff.mpr ⟨by omega, by omega⟩) rfl dX12_lean_117 ?_
                  have b25288l := Int32.le_toInt (A24915 23 y25287.toNatClampNeg)
                  have b25288h := Int32.toInt_lt (A24915 23 y25287.toNatClampNeg)
                  have b25289l := Int32.le_toInt (A24915 23 x24916.toNatClampNeg)
                  have b25289h := Int32.toInt_lt (A24915 23 x24916.toNatClampNeg)
                  refine g_isub hk dX12_lean_118 ?_
                  refine g_topi (fun y25290 ey25290 => ?_)
                  have hy25290 := i32_sub0 ey25290
                  refine g_bipush (v := 101) hk dX12_lean_119 (by decide) ?_
                  have b25291l := Int32.le_toInt y25290
                  have b25291h := Int32.toInt_lt y25290
                  refine g_icmp_ne (tgt := 127) (a := y25290.toInt) (b := 101) hk dX12_lean_121 (by decide) rfl rfl (fun c25292 => ?_) (fun c25292 => ?_)
                  · skip
                    obtain ⟨y25293, ey25293⟩ : ∃ y : Int32, y = x24916 + Int32.ofInt 1 := ⟨_, rfl⟩
                    have hy25293 : y25293.toInt = x24916.toInt + 1 := i32_add ey25293 rfl (by decide) (by omega) (by omega)
                    refine g_iinc (v := y25293) (lv' := [(6, .int y25293), (4, .int y25264), (7, .int y25264), (5, .int x24917), (0, .ref (r 0)), (1, .int z1), (2, .int z2), (3, .int z3)]) hk 2 dX12_lean_127 rfl ey25293.symm (by decide) rfl ?_
                    refine g_goto (tgt := 44) hk dX12_lean_130 (by decide) ?_
                    have b25294l := Int32.le_toInt x24917
                    have b25294h := Int32.toInt_lt x24917
                    exact g_lv (List.forall_mem_cons.mpr ⟨List.mem_of_getElem? (i := 0) rfl, (List.forall_mem_cons.mpr ⟨List.mem_of_getElem? (i := 3) rfl, (List.forall_mem_cons.mpr ⟨List.mem_of_getElem? (i := 1) rfl, (List.forall_mem_cons.mpr ⟨List.mem_of_getElem? (i := 4) rfl, (List.forall_mem_cons.mpr ⟨List.mem_of_getElem? (i := 5) rfl, (List.forall_mem_cons.mpr ⟨List.mem_of_getElem? (i := 6) rfl, (List.forall_mem_cons.mpr ⟨List.mem_of_getElem? (i := 7) rfl, (fun _ h => absurd h List.not_mem_nil)⟩)⟩)⟩)⟩)⟩)⟩)⟩) (ih25254 y25293 x24917 y25264 (by omega) (by omega) (by omega) (by omega) (by omega))
                  · skip
                    have b25295l := Int32.le_toInt x24917
                    have b25295h := Int32.toInt_lt x24917
                    obtain ⟨y25296, ey25296⟩ : ∃ y : Int32, y = x24917 + Int32.ofInt 1 := ⟨_, rfl⟩
                    refine g_iinc (v := y25296) (lv' := [(5, .int y25296), (4, .int y25264), (7, .int y25264), (6, .int x24916), (0, .ref (r 0)), (1, .int z1), (2, .int z2), (3, .int z3)]) hk 3 dX12_lean_124 rfl ey25296.symm (by decide) rfl ?_
                    obtain ⟨y25297, ey25297⟩ : ∃ y : Int32, y = x24916 + Int32.ofInt 1 := ⟨_, rfl⟩
                    have hy25297 : y25297.toInt = x24916.toInt + 1 := i32_add ey25297 rfl (by decide) (by omega) (by omega)
                    refine g_iinc (v := y25297) (lv' := [(6, .int y25297), (5, .int y25296), (4, .int y25264), (7, .int y25264), (0, .ref (r 0)), (1, .int z1), (2, .int z2), (3, .int z3)]) hk 3 dX12_lean_127 rfl ey25297.symm (by decide) rfl ?_
                    refine g_goto (tgt := 44) hk dX12_lean_130 (by decide) ?_
                    have b25298l := Int32.le_toInt y25296
                    have b25298h := Int32.toInt_lt y25296
                    exact g_lv (List.forall_mem_cons.mpr ⟨List.mem_of_getElem? (i := 0) rfl, (List.forall_mem_cons.mpr ⟨List.mem_of_getElem? (i := 1) rfl, (List.forall_mem_cons.mpr ⟨List.mem_of_getElem? (i := 2) rfl, (List.forall_mem_cons.mpr ⟨List.mem_of_getElem? (i := 4) rfl, (List.forall_mem_cons.mpr ⟨List.mem_of_getElem? (i := 5) rfl, (List.forall_mem_cons.mpr ⟨List.mem_of_getElem? (i := 6) rfl, (List.forall_mem_cons.mpr ⟨List.mem_of_getElem? (i := 7) rfl, (fun _ h => absurd h List.not_mem_nil)⟩)⟩)⟩)⟩)⟩)⟩)⟩) (ih25254 y25297 y25296 y25264 (by omega) (by omega) (by omega) (by omega) (by omega))
            · skip
              refine g_iload hk dX12_lean_81 rfl ?_
              refine g_ineg hk dX12_lean_83 ?_
              refine g_topi (fun y25299 ey25299 => ?_)
              refine g_istore (lv' := [(7, .int y25299), (6, .int x24916), (5, .int x24917), (4, .int x24918), (0, .ref (r 0)), (1, .int z1), (2, .int z2), (3, .int z3)]) hk dX12_lean_84 (by decide) rfl ?_
              refine g_iload hk dX12_lean_86 rfl ?_
              refine g_iload hk dX12_lean_88 rfl ?_
              have b25300l := Int32.le_toInt y25299
              have b25300h := Int32.toInt_lt y25299
              have b25301l := Int32.le_toInt x24918
              have b25301h := Int32.toInt_lt x24918
              refine g_icmp_le (tgt := 97) (a := y25299.toInt) (b := x24918.toInt) hk dX12_lean_90 (by decide) rfl rfl (fun c25302 => ?_) (fun c25302 => ?_)
              · skip
                refine g_iload hk dX12_lean_97 rfl ?_
                refine g_if_le (tgt := 127) (a := x24916.toInt) hk dX12_lean_99 (by decide) rfl (fun c25303 => ?_) (fun c25303 => ?_)
                · skip
                  obtain ⟨y25304, ey25304⟩ : ∃ y : Int32, y = x24916 + Int32.ofInt 1 := ⟨_, rfl⟩
                  have hy25304 : y25304.toInt = x24916.toInt + 1 := i32_add ey25304 rfl (by decide) (by omega) (by omega)
                  refine g_iinc (v := y25304) (lv' := [(6, .int y25304), (7, .int y25299), (5, .int x24917), (4, .int x24918), (0, .ref (r 0)), (1, .int z1), (2, .int z2), (3, .int z3)]) hk 1 dX12_lean_127 rfl ey25304.symm (by decide) rfl ?_
                  refine g_goto (tgt := 44) hk dX12_lean_130 (by decide) ?_
                  have b25305l := Int32.le_toInt x24917
                  have b25305h := Int32.toInt_lt x24917
                  exact g_lv (List.forall_mem_cons.mpr ⟨List.mem_of_getElem? (i := 0) rfl, (List.forall_mem_cons.mpr ⟨List.mem_of_getElem? (i := 2) rfl, (List.forall_mem_cons.mpr ⟨List.mem_of_getElem? (i := 3) rfl, (List.forall_mem_cons.mpr ⟨List.mem_of_getElem? (i := 4) rfl, (List.forall_mem_cons.mpr ⟨List.mem_of_getElem? (i := 5) rfl, (List.forall_mem_cons.mpr ⟨List.mem_of_getElem? (i := 6) rfl, (List.forall_mem_cons.mpr ⟨List.mem_of_getElem? (i := 7) rfl, (fun _ h => absurd h List.not_mem_nil)⟩)⟩)⟩)⟩)⟩)⟩)⟩) (ih25254 y25304 x24917 x24918 (by omega) (by omega) (by omega) (by omega) (by omega))
                · skip
                  refine g_aload_n hk dX12_lean_102 rfl ?_
                  refine gM_r0_46 hk hin12 (List.mem_cons_of_mem _ (List.mem_append_left _ (List.mem_of_getElem? (i := 16) rfl))) dX12_lean_103 ?_
                  refine g_iload hk dX12_lean_106 rfl ?_
                  refine g_iconst (v := 1) hk dX12_lean_108 (by decide) ?_
                  refine g_isub hk dX12_lean_109 ?_
                  refine g_topi (fun y25306 ey25306 => ?_)
                  have hy25306 : y25306.toInt = x24916.toInt - 1 := i32_sub ey25306 rfl rfl (by omega) (by omega)
                  refine lM_23 (v := (A24915 23 y25306.toNatClampNeg)) hk (vp_in_iff.mpr ⟨by omega, by omega⟩) rfl dX12_lean_110 ?_
                  refine g_aload_n hk dX12_lean_111 rfl ?_
                  refine gM_r0_46 hk hin12 (List.mem_cons_of_mem _ (List.mem_append_left _ (List.mem_of_getElem? (i := 16) rfl))) dX12_lean_112 ?_
                  refine g_iload hk dX12_lean_115 rfl ?_
                  refine lM_23 (v := (A24915 23 x24916.toNatClampNeg)) hk (vp_in_iff.mpr ⟨by omega, by omega⟩) rfl dX12_lean_117 ?_
                  have b25307l := Int32.le_toInt (A24915 23 y25306.toNatClampNeg)
                  have b25307h := Int32.toInt_lt (A24915 23 y25306.toNatClampNeg)
                  have b25308l := Int32.le_toInt (A24915 23 x24916.toNatClampNeg)
                  have b25308h := Int32.toInt_lt (A24915 23 x24916.toNatClampNeg)
                  refine g_isub hk dX12_lean_118 ?_
                  refine g_topi (fun y25309 ey25309 => ?_)
                  have hy25309 := i32_sub0 ey25309
                  refine g_bipush (v := 101) hk dX12_lean_119 (by decide) ?_
                  have b25310l := Int32.le_toInt y25309
                  have b25310h := Int32.toInt_lt y25309
                  refine g_icmp_ne (tgt := 127) (a := y25309.toInt) (b := 101) hk dX12_lean_121 (by decide) rfl rfl (fun c25311 => ?_) (fun c25311 => ?_)
                  · skip
                    obtain ⟨y25312, ey25312⟩ : ∃ y : Int32, y = x24916 + Int32.ofInt 1 := ⟨_, rfl⟩
                    have hy25312 : y25312.toInt = x24916.toInt + 1 := i32_add ey25312 rfl (by decide) (by omega) (by omega)
                    refine g_iinc (v := y25312) (lv' := [(6, .int y25312), (7, .int y25299), (5, .int x24917), (4, .int x24918), (0, .ref (r 0)), (1, .int z1), (2, .int z2), (3, .int z3)]) hk 1 dX12_lean_127 rfl ey25312.symm (by decide) rfl ?_
                    refine g_goto (tgt := 44) hk dX12_lean_130 (by decide) ?_
                    have b25313l := Int32.le_toInt x24917
                    have b25313h := Int32.toInt_lt x24917
                    exact g_lv (List.forall_mem_cons.mpr ⟨List.mem_of_getElem? (i := 0) rfl, (List.forall_mem_cons.mpr ⟨List.mem_of_getElem? (i := 2) rfl, (List.forall_mem_cons.mpr ⟨List.mem_of_getElem? (i := 3) rfl, (List.forall_mem_cons.mpr ⟨List.mem_of_getElem? (i := 4) rfl, (List.forall_mem_cons.mpr ⟨List.mem_of_getElem? (i := 5) rfl, (List.forall_mem_cons.mpr ⟨List.mem_of_getElem? (i := 6) rfl, (List.forall_mem_cons.mpr ⟨List.mem_of_getElem? (i := 7) rfl, (fun _ h => absurd h List.not_mem_nil)⟩)⟩)⟩)⟩)⟩)⟩)⟩) (ih25254 y25312 x24917 x24918 (by omega) (by omega) (by omega) (by omega) (by omega))
                  · skip
                    have b25314l := Int32.le_toInt x24917
                    have b25314h := Int32.toInt_lt x24917
                    obtain ⟨y25315, ey25315⟩ : ∃ y : Int32, y = x24917 + Int32.ofInt 1 := ⟨_, rfl⟩
                    refine g_iinc (v := y25315) (lv' := [(5, .int y25315), (7, .int y25299), (6, .int x24916), (4, .int x24918), (0, .ref (r 0)), (1, .int z1), (2, .int z2), (3, .int z3)]) hk 2 dX12_lean_124 rfl ey25315.symm (by decide) rfl ?_
                    obtain ⟨y25316, ey25316⟩ : ∃ y : Int32, y = x24916 + Int32.ofInt 1 := ⟨_, rfl⟩
                    have hy25316 : y25316.toInt = x24916.toInt + 1 := i32_add ey25316 rfl (by decide) (by omega) (by omega)
                    refine g_iinc (v := y25316) (lv' := [(6, .int y25316), (5, .int y25315), (7, .int y25299), (4, .int x24918), (0, .ref (r 0)), (1, .int z1), (2, .int z2), (3, .int z3)]) hk 2 dX12_lean_127 rfl ey25316.symm (by decide) rfl ?_
                    refine g_goto (tgt := 44) hk dX12_lean_130 (by decide) ?_
                    have b25317l := Int32.le_toInt y25315
                    have b25317h := Int32.toInt_lt y25315
                    exact g_lv (List.forall_mem_cons.mpr ⟨List.mem_of_getElem? (i := 0) rfl, (List.forall_mem_cons.mpr ⟨List.mem_of_getElem? (i := 1) rfl, (List.forall_mem_cons.mpr ⟨List.mem_of_getElem? (i := 3) rfl, (List.forall_mem_cons.mpr ⟨List.mem_of_getElem? (i := 4) rfl, (List.forall_mem_cons.mpr ⟨List.mem_of_getElem? (i := 5) rfl, (List.forall_mem_cons.mpr ⟨List.mem_of_getElem? (i := 6) rfl, (List.forall_mem_cons.mpr ⟨List.mem_of_getElem? (i := 7) rfl, (fun _ h => absurd h List.not_mem_nil)⟩)⟩)⟩)⟩)⟩)⟩)⟩) (ih25254 y25316 y25315 x24918 (by omega) (by omega) (by omega) (by omega) (by omega))
              · skip
                refine g_iload hk dX12_lean_93 rfl ?_
                refine g_istore (lv' := [(4, .int y25299), (7, .int y25299), (6, .int x24916), (5, .int x24917), (0, .ref (r 0)), (1, .int z1), (2, .int z2), (3, .int z3)]) hk dX12_lean_95 (by decide) rfl ?_
                refine g_iload hk dX12_lean_97 rfl ?_
                refine g_if_le (tgt := 127) (a := x24916.toInt) hk dX12_lean_99 (by decide) rfl (fun c25318 => ?_) (fun c25318 => ?_)
                · skip
                  obtain ⟨y25319, ey25319⟩ : ∃ y : Int32, y = x24916 + Int32.ofInt 1 := ⟨_, rfl⟩
                  have hy25319 : y25319.toInt = x24916.toInt + 1 := i32_add ey25319 rfl (by decide) (by omega) (by omega)
                  refine g_iinc (v := y25319) (lv' := [(6, .int y25319), (4, .int y25299), (7, .int y25299), (5, .int x24917), (0, .ref (r 0)), (1, .int z1), (2, .int z2), (3, .int z3)]) hk 2 dX12_lean_127 rfl ey25319.symm (by decide) rfl ?_
                  refine g_goto (tgt := 44) hk dX12_lean_130 (by decide) ?_
                  have b25320l := Int32.le_toInt x24917
                  have b25320h := Int32.toInt_lt x24917
                  exact g_lv (List.forall_mem_cons.mpr ⟨List.mem_of_getElem? (i := 0) rfl, (List.forall_mem_cons.mpr ⟨List.mem_of_getElem? (i := 3) rfl, (List.forall_mem_cons.mpr ⟨List.mem_of_getElem? (i := 1) rfl, (List.forall_mem_cons.mpr ⟨List.mem_of_getElem? (i := 4) rfl, (List.forall_mem_cons.mpr ⟨List.mem_of_getElem? (i := 5) rfl, (List.forall_mem_cons.mpr ⟨List.mem_of_getElem? (i := 6) rfl, (List.forall_mem_cons.mpr ⟨List.mem_of_getElem? (i := 7) rfl, (fun _ h => absurd h List.not_mem_nil)⟩)⟩)⟩)⟩)⟩)⟩)⟩) (ih25254 y25319 x24917 y25299 (by omega) (by omega) (by omega) (by omega) (by omega))
                · skip
                  refine g_aload_n hk dX12_lean_102 rfl ?_
                  refine gM_r0_46 hk hin12 (List.mem_cons_of_mem _ (List.mem_append_left _ (List.mem_of_getElem? (i := 16) rfl))) dX12_lean_103 ?_
                  refine g_iload hk dX12_lean_106 rfl ?_
                  refine g_iconst (v := 1) hk dX12_lean_108 (by decide) ?_
                  refine g_isub hk dX12_lean_109 ?_
                  refine g_topi (fun y25321 ey25321 => ?_)
                  have hy25321 : y25321.toInt = x24916.toInt - 1 := i32_sub ey25321 rfl rfl (by omega) (by omega)
                  refine lM_23 (v := (A24915 23 y25321.toNatClampNeg)) hk (vp_in_iff.mpr ⟨by omega, by omega⟩) rfl dX12_lean_110 ?_
                  refine g_aload_n hk dX12_lean_111 rfl ?_
                  refine gM_r0_46 hk hin12 (List.mem_cons_of_mem _ (List.mem_append_left _ (List.mem_of_getElem? (i := 16) rfl))) dX12_lean_112 ?_
                  refine g_iload hk dX12_lean_115 rfl ?_
                  refine lM_23 (v := (A24915 23 x24916.toNatClampNeg)) hk (vp_in_iff.mpr ⟨by omega, by omega⟩) rfl dX12_lean_117 ?_
                  have b25322l := Int32.le_toInt (A24915 23 y25321.toNatClampNeg)
                  have b25322h := Int32.toInt_lt (A24915 23 y25321.toNatClampNeg)
                  have b25323l := Int32.le_toInt (A24915 23 x24916.toNatClampNeg)
                  have b25323h := Int32.toInt_lt (A24915 23 x24916.toNatClampNeg)
                  refine g_isub hk dX12_lean_118 ?_
                  refine g_topi (fun y25324 ey25324 => ?_)
                  have hy25324 := i32_sub0 ey25324
                  refine g_bipush (v := 101) hk dX12_lean_119 (by decide) ?_
                  have b25325l := Int32.le_toInt y25324
                  have b25325h := Int32.toInt_lt y25324
                  refine g_icmp_ne (tgt := 127) (a := y25324.toInt) (b := 101) hk dX12_lean_121 (by decide) rfl rfl (fun c25326 => ?_) (fun c25326 => ?_)
                  · skip
                    obtain ⟨y25327, ey25327⟩ : ∃ y : Int32, y = x24916 + Int32.ofInt 1 := ⟨_, rfl⟩
                    have hy25327 : y25327.toInt = x24916.toInt + 1 := i32_add ey25327 rfl (by decide) (by omega) (by omega)
                    refine g_iinc (v := y25327) (lv' := [(6, .int y25327), (4, .int y25299), (7, .int y25299), (5, .int x24917), (0, .ref (r 0)), (1, .int z1), (2, .int z2), (3, .int z3)]) hk 2 dX12_lean_127 rfl ey25327.symm (by decide) rfl ?_
                    refine g_goto (tgt := 44) hk dX12_lean_130 (by decide) ?_
                    have b25328l := Int32.le_toInt x24917
                    have b25328h := Int32.toInt_lt x24917
                    exact g_lv (List.forall_mem_cons.mpr ⟨List.mem_of_getElem? (i := 0) rfl, (List.forall_mem_cons.mpr ⟨List.mem_of_getElem? (i := 3) rfl, (List.forall_mem_cons.mpr ⟨List.mem_of_getElem? (i := 1) rfl, (List.forall_mem_cons.mpr ⟨List.mem_of_getElem? (i := 4) rfl, (List.forall_mem_cons.mpr ⟨List.mem_of_getElem? (i := 5) rfl, (List.forall_mem_cons.mpr ⟨List.mem_of_getElem? (i := 6) rfl, (List.forall_mem_cons.mpr ⟨List.mem_of_getElem? (i := 7) rfl, (fun _ h => absurd h List.not_mem_nil)⟩)⟩)⟩)⟩)⟩)⟩)⟩) (ih25254 y25327 x24917 y25299 (by omega) (by omega) (by omega) (by omega) (by omega))
                  · skip
                    have b25329l := Int32.le_toInt x24917
                    have b25329h := Int32.toInt_lt x24917
                    obtain ⟨y25330, ey25330⟩ : ∃ y : Int32, y = x24917 + Int32.ofInt 1 := ⟨_, rfl⟩
                    refine g_iinc (v := y25330) (lv' := [(5, .int y25330), (4, .int y25299), (7, .int y25299), (6, .int x24916), (0, .ref (r 0)), (1, .int z1), (2, .int z2), (3, .int z3)]) hk 3 dX12_lean_124 rfl ey25330.symm (by decide) rfl ?_
                    obtain ⟨y25331, ey25331⟩ : ∃ y : Int32, y = x24916 + Int32.ofInt 1 := ⟨_, rfl⟩
                    have hy25331 : y25331.toInt = x24916.toInt + 1 := i32_add ey25331 rfl (by decide) (by omega) (by omega)
                    refine g_iinc (v := y25331) (lv' := [(6, .int y25331), (5, .int y25330), (4, .int y25299), (7, .int y25299), (0, .ref (r 0)), (1, .int z1), (2, .int z2), (3, .int z3)]) hk 3 dX12_lean_127 rfl ey25331.symm (by decide) rfl ?_
                    refine g_goto (tgt := 44) hk dX12_lean_130 (by decide) ?_
                    have b25332l := Int32.le_toInt y25330
                    have b25332h := Int32.toInt_lt y25330
                    exact g_lv (List.forall_mem_cons.mpr ⟨List.mem_of_getElem? (i := 0) rfl, (List.forall_mem_cons.mpr ⟨List.mem_of_getElem? (i := 1) rfl, (List.forall_mem_cons.mpr ⟨List.mem_of_getElem? (i := 2) rfl, (List.forall_mem_cons.mpr ⟨List.mem_of_getElem? (i := 4) rfl, (List.forall_mem_cons.mpr ⟨List.mem_of_getElem? (i := 5) rfl, (List.forall_mem_cons.mpr ⟨List.mem_of_getElem? (i := 6) rfl, (List.forall_mem_cons.mpr ⟨List.mem_of_getElem? (i := 7) rfl, (fun _ h => absurd h List.not_mem_nil)⟩)⟩)⟩)⟩)⟩)⟩)⟩) (ih25254 y25331 y25330 y25299 (by omega) (by omega) (by omega) (by omega) (by omega))
      obtain ⟨n25333, n25333a, n25333b⟩ : ∃ n : Nat, 41 - (0 : Int32).toInt < (n : Int) ∧ 0 < n := ⟨((41 - (0 : Int32).toInt : Int)).toNat + 1, by omega, by omega⟩
      exact lp25251 n25333 0 0 0 (by omega) (by omega) (by omega) n25333a n25333b
def wo_j205_X12_whose : List Cond := [Cond.methodLink RX12 244 yX12_in, Cond.static yX12_in, Cond.initialized RX12, Cond.methodLink RX12 257 yX12_isWindow, Cond.instanceMethod yX12_isWindow, Cond.selects RX12 yX12_isWindow yX12_isWindow, Cond.methodLink RX12 323 yX12_copies, Cond.instanceMethod yX12_copies, Cond.selects RX12 yX12_copies yX12_copies, Cond.fieldLink RX12 49 "WarpDeskModel" "queries" "[I", Cond.fieldLink RX12 197 "WarpDeskModel" "live" "I", Cond.methodLink RX12 254 yX12_wideOf, Cond.instanceMethod yX12_wideOf, Cond.selects RX12 yX12_wideOf yX12_wideOf, Cond.methodLink RX12 345 yX12_distanceOf, Cond.instanceMethod yX12_distanceOf, Cond.selects RX12 yX12_distanceOf yX12_distanceOf]
def wz_j205_X12_whose : List Cond := .code yX12_whose cX12_whose 7 (some .int) :: (wo_j205_X12_whose ++ (wsX120 ++ (wz_j145_X12_in ++ (wz_j160_X12_isWindow ++ (wz_j151_X12_copies ++ (wz_j148_X12_wideOf ++ (wz_j169_X12_distanceOf ++ ([] : List Cond))))))))
theorem zg_j205_X12_whose : ∀ w ∈ wz_j205_X12_whose, goodWord w = true := zg_cons rfl (zg_app (by decide +kernel) (zg_app zgU_wsX120 (zg_app zg_j145_X12_in (zg_app zg_j160_X12_isWindow (zg_app zg_j151_X12_copies (zg_app zg_j148_X12_wideOf (zg_app zg_j169_X12_distanceOf zg_nil)))))))
theorem zi_j205_X12_whose : ∀ w ∈ wz_j205_X12_whose, w ∈ lw_tbl := zi_cons zw_1914 (zi_app (zi_cons zw_1656 (zi_cons zw_1657 (zi_cons zw_115 (zi_cons zw_1714 (zi_cons zw_1716 (zi_cons zw_72 (zi_cons zw_1679 (zi_cons zw_1681 (zi_cons zw_70 (zi_cons zw_1406 (zi_cons zw_1400 (zi_cons zw_1667 (zi_cons zw_1669 (zi_cons zw_68 (zi_cons zw_1759 (zi_cons zw_1761 (zi_cons zw_79 zi_nil))))))))))))))))) (zi_app inX12 (zi_app zi_j145_X12_in (zi_app zi_j160_X12_isWindow (zi_app zi_j151_X12_copies (zi_app zi_j148_X12_wideOf (zi_app zi_j169_X12_distanceOf zi_nil)))))))
set_option maxHeartbeats 4000000 in
set_option maxRecDepth 100000 in
theorem j205_X12_whose (l : Launch) (D : va_G) (zt : Nat × Nat × Nat × (Nat → Nat) × (Nat → Nat)) (r : Nat → Nat) (g : Nat → ClassId) (I : Nat → Int32) (A : Nat → Nat → Int32) (L : Nat → Nat → Int64) (z1 : Int32) (z2 : Int32) (hIv : IvM I A) : GM l D zt (tyM g) yX12_whose wz_j205_X12_whose ({ frames := 6, cells := 0, slots := 0, locals := 134 } : Room) [.ref (r 0), .int z1, .int z2] (wM r g I A L) (fun v _ w' => ∃ (I' : Nat → Int32) (A' : Nat → Nat → Int32) (L' : Nat → Nat → Int64), Md [18, 19, 20] I I' ∧ Md [18, 19, 20, 21] A A' ∧ IvM I' A' ∧ ∃ y0 : Int32, ((-2) ≤ y0.toInt) ∧ (y0.toInt ≤ 4) ∧ v = some (.int y0) ∧ w' = wM r g I' A' L') 0 0 := by
  refine GM.of (cc := cX12_whose) (maxL := 7) (ret := (some .int)) (own := RX12) (lv := [(0, .ref (r 0)), (1, .int z1), (2, .int z2)]) (by decide) rfl rfl (Nat.le_of_ble_eq_true rfl) rfl (fun κ sz hk hR hN => ?_)
  have hin12 : ∀ w ∈ u_ws RX12 TX12 55, w ∈ wz_j205_X12_whose := fun w h => (List.mem_cons_of_mem _ (List.mem_append_right _ (List.mem_append_left _ h)))
  refine g_iload_n hk dX12_whose_0 rfl ?_
  refine g_iconst (v := 2) hk dX12_whose_1 (by decide) ?_
  refine g_bipush (v := 16) hk dX12_whose_2 (by decide) ?_
  have k25334 : (2 : Int32).toInt = 2 := rfl
  have k25335 : (16 : Int32).toInt = 16 := rfl
  refine g_callS (n := 3) hk (j145_X12_in l D zt r g I A L z2 2 16 hIv) (SP.same _) (fun _ h => h) (gi_S (List.mem_cons_of_mem _ (List.mem_append_left _ (List.mem_of_getElem? (i := 0) rfl))) (List.mem_cons_of_mem _ (List.mem_append_left _ (List.mem_of_getElem? (i := 1) rfl))) (List.mem_cons_of_mem _ (List.mem_append_left _ (List.mem_of_getElem? (i := 2) rfl))) (gi_sub (fun w h => (List.mem_cons_of_mem _ (List.mem_append_right _ (List.mem_append_right _ (List.mem_append_left _ h))))) zg_j145_X12_in)) rfl rfl rfl (by decide +kernel) ⟨Nat.le_of_ble_eq_true rfl, Nat.le_of_ble_eq_true rfl⟩ rfl rfl (Nat.le_of_ble_eq_true rfl) ⟨Nat.le_of_ble_eq_true rfl, Nat.le_of_ble_eq_true rfl⟩ dX12_whose_4 (fun v ty' w' hp hk' => ?_)
  rcases hp with ⟨c25336, rfl, rfl⟩ | ⟨c25338, c25339, rfl, rfl⟩
  · skip
    have b25341l := Int32.le_toInt z2
    have b25341h := Int32.toInt_lt z2
    show GW κ 7 0 0 (wM r g I A L) 7 [(0, .ref (r 0)), (1, .int z1), (2, .int z2)] [.int 0]
    refine g_if_eq (tgt := 19) (a := 0) hk dX12_whose_7 (by decide) rfl (fun _ => ?_) (fun z9 => absurd (show (0 : Int) = (0 : Int) from by decide) z9)
    refine g_iconst (v := (-1)) hk dX12_whose_19 (by decide) ?_
    exact g_iret hk hR rfl ⟨I, A, L, (show Md [18, 19, 20] I I from Md.rf), (show Md [18, 19, 20, 21] A A from Md.rf), hIv, (-1), (by decide), (by decide), rfl, rfl⟩ dX12_whose_20
  · skip
    show GW κ 7 0 0 (wM r g I A L) 7 [(0, .ref (r 0)), (1, .int z1), (2, .int z2)] [.int 1]
    refine g_if_eq (tgt := 19) (a := 1) hk dX12_whose_7 (by decide) rfl (fun z9 => absurd z9 (show ¬ ((1 : Int) = (0 : Int)) from by decide)) (fun _ => ?_)
    refine g_aload_n hk dX12_whose_10 rfl ?_
    refine g_iload_n hk dX12_whose_11 rfl ?_
    refine g_iload_n hk dX12_whose_12 rfl ?_
    refine g_callV (n := 2) hk (j160_X12_isWindow l D zt r g I A L z1 z2 hIv) (SP.same _) (fun _ h => h) (gi_V (List.mem_cons_of_mem _ (List.mem_append_left _ (List.mem_of_getElem? (i := 3) rfl))) (List.mem_cons_of_mem _ (List.mem_append_left _ (List.mem_of_getElem? (i := 4) rfl))) (List.mem_cons_of_mem _ (List.mem_append_left _ (List.mem_of_getElem? (i := 5) rfl))) (List.mem_cons_of_mem _ (List.mem_append_left _ (List.mem_of_getElem? (i := 2) rfl))) (gi_sub (fun w h => (List.mem_cons_of_mem _ (List.mem_append_right _ (List.mem_append_right _ (List.mem_append_right _ (List.mem_append_left _ h)))))) zg_j160_X12_isWindow)) rfl rfl rfl (by decide +kernel) ⟨Nat.le_of_ble_eq_true rfl, Nat.le_of_ble_eq_true rfl⟩ 0 rfl rfl rfl rfl (Nat.le_of_ble_eq_true rfl) ⟨Nat.le_of_ble_eq_true rfl, Nat.le_of_ble_eq_true rfl⟩ dX12_whose_13 (fun v ty' w' hp hk' => ?_)
    rcases hp with ⟨rfl, rfl⟩ | ⟨c25343, c25344, c25345, c25346, c25347, c25348, c25349, rfl, rfl⟩
    · skip
      show GW κ 7 0 0 (wM r g I A L) 16 [(0, .ref (r 0)), (1, .int z1), (2, .int z2)] [.int 0]
      refine g_if_ne (tgt := 21) (a := 0) hk dX12_whose_16 (by decide) rfl (fun z9 => absurd z9 (show ¬ ((0 : Int) ≠ (0 : Int)) from by decide)) (fun _ => ?_)
      refine g_iconst (v := (-1)) hk dX12_whose_19 (by decide) ?_
      exact g_iret hk hR rfl ⟨I, A, L, (show Md [18, 19, 20] I I from Md.rf), (show Md [18, 19, 20, 21] A A from Md.rf), hIv, (-1), (by decide), (by decide), rfl, rfl⟩ dX12_whose_20
    · skip
      show GW κ 7 0 0 (wM r g I A L) 16 [(0, .ref (r 0)), (1, .int z1), (2, .int z2)] [.int 1]
      refine g_if_ne (tgt := 21) (a := 1) hk dX12_whose_16 (by decide) rfl (fun _ => ?_) (fun z9 => absurd (show (1 : Int) ≠ (0 : Int) from by decide) z9)
      refine g_aload_n hk dX12_whose_21 rfl ?_
      refine g_callV (n := 0) hk (j151_X12_copies l D zt r g I A L  hIv) (SP.same _) (fun _ h => h) (gi_V (List.mem_cons_of_mem _ (List.mem_append_left _ (List.mem_of_getElem? (i := 6) rfl))) (List.mem_cons_of_mem _ (List.mem_append_left _ (List.mem_of_getElem? (i := 7) rfl))) (List.mem_cons_of_mem _ (List.mem_append_left _ (List.mem_of_getElem? (i := 8) rfl))) (List.mem_cons_of_mem _ (List.mem_append_left _ (List.mem_of_getElem? (i := 2) rfl))) (gi_sub (fun w h => (List.mem_cons_of_mem _ (List.mem_append_right _ (List.mem_append_right _ (List.mem_append_right _ (List.mem_append_right _ (List.mem_append_left _ h))))))) zg_j151_X12_copies)) rfl rfl rfl (by decide +kernel) ⟨Nat.le_of_ble_eq_true rfl, Nat.le_of_ble_eq_true rfl⟩ 0 rfl rfl rfl rfl (Nat.le_of_ble_eq_true rfl) ⟨Nat.le_of_ble_eq_true rfl, Nat.le_of_ble_eq_true rfl⟩ dX12_whose_22 (fun v ty' w' hp hk' => ?_)
      obtain ⟨I25352, A25352, L25352, hI25352, hA25352, hV25352, r25353, r25354, rfl, rfl⟩ := hp
      have f25355 := IvM_s17_0 hIv
      have f25356 := IvM_s17_164 hIv
      show GW κ 7 0 0 (wM r g I25352 A25352 L25352) 25 [(0, .ref (r 0)), (1, .int z1), (2, .int z2)] []
      refine g_bipush (v := (-2)) hk dX12_whose_25 (by decide) ?_
      refine g_istore_n (lv' := [(3, .int (-2)), (0, .ref (r 0)), (1, .int z1), (2, .int z2)]) hk dX12_whose_27 (by decide) rfl ?_
      refine g_iconst (v := 0) hk dX12_whose_28 (by decide) ?_
      refine g_istore (lv' := [(4, .int 0), (3, .int (-2)), (0, .ref (r 0)), (1, .int z1), (2, .int z2)]) hk dX12_whose_29 (by decide) rfl ?_
      refine g_iconst (v := 0) hk dX12_whose_31 (by decide) ?_
      refine g_istore (lv' := [(5, .int 0), (4, .int 0), (3, .int (-2)), (0, .ref (r 0)), (1, .int z1), (2, .int z2)]) hk dX12_whose_32 (by decide) rfl ?_
      have lp25533 : ∀ (n25534 : Nat) (x25357 : Int32) (x25358 : Int32) (x25359 : Int32) (I25363 : Nat → Int32) (A25363 : Nat → Nat → Int32) (L25363 : Nat → Nat → Int64), (Md [18, 19, 20] I25352 I25363) → (Md [19, 20, 21] A25352 A25363) → (IvM I25363 A25363) → (0 ≤ x25357.toInt) → (x25357.toInt ≤ 5) → ((-2) ≤ x25359.toInt) → (x25359.toInt ≤ 4) → (6 - x25357.toInt < (n25534 : Int)) → (0 < n25534) → GW κ 7 0 0 (wM r g I25363 A25363 L25363) 34 [(5, .int x25357), (4, .int x25358), (3, .int x25359), (0, .ref (r 0)), (1, .int z1), (2, .int z2)] [] := by
        intro n25534
        induction n25534 with
        | zero =>
          intro x25357 x25358 x25359 I25363 A25363 L25363 hI25363 hA25363 hV25363 h25529 h25530 h25531 h25532 m25535 m25535z
          exact absurd m25535z (Nat.lt_irrefl 0)
        | succ n25534 ih25536 =>
          intro x25357 x25358 x25359 I25363 A25363 L25363 hI25363 hA25363 hV25363 h25529 h25530 h25531 h25532 m25535 m25535z
          refine g_iload hk dX12_whose_34 rfl ?_
          refine g_aload_n hk dX12_whose_36 rfl ?_
          refine gM_r0_28 hk hin12 (List.mem_cons_of_mem _ (List.mem_append_left _ (List.mem_of_getElem? (i := 9) rfl))) dX12_whose_37 ?_
          refine g_aload_n hk dX12_whose_40 rfl ?_
          refine gM_i15 (v := (I 15)) hk hin12 (List.mem_cons_of_mem _ (List.mem_append_left _ (List.mem_of_getElem? (i := 10) rfl))) dX12_whose_41 ((hI25363 15 rfl).trans (hI25352 15 rfl)) ?_
          have f25537 := IvM_f15 hIv
          by_cases c25538 : (I 15).toInt = 0
          · have ec25538 : (I 15) = 0 := Int32.toInt_inj.mp c25538
            rw [ec25538]
            show GW κ 7 0 0 (wM r g I25363 A25363 L25363) 44 [(5, .int x25357), (4, .int x25358), (3, .int x25359), (0, .ref (r 0)), (1, .int z1), (2, .int z2)] [.int 0, .ref (r 11), .int x25357]
            refine lM_10 (v := (A 10 0)) hk (vp_in_iff.mpr ⟨by decide, by decide⟩) ((congrFun (hA25363 10 rfl) _).trans (congrFun (hA25352 10 rfl) _)) dX12_whose_44 ?_
            have f25539 := IvM_s10_0 hIv
            refine g_icmp_ge (tgt := 97) (a := x25357.toInt) (b := (A 10 0).toInt) hk dX12_whose_45 (by decide) rfl rfl (fun c25540 => ?_) (fun c25540 => ?_)
            · skip
              refine g_iload_n hk dX12_whose_97 rfl ?_
              exact g_iret hk hR rfl ⟨I25363, A25363, L25363, (show Md [18, 19, 20] I I25363 from (Md.tr (Md.tr Md.rf hI25352 rfl) hI25363 rfl)), (show Md [18, 19, 20, 21] A A25363 from (Md.tr (Md.tr Md.rf hA25352 rfl) hA25363 rfl)), hV25363, x25359, (by omega), (by omega), rfl, rfl⟩ dX12_whose_98
            · skip
              refine g_aload_n hk dX12_whose_48 rfl ?_
              refine g_iload hk dX12_whose_49 rfl ?_
              refine g_callV (n := 1) hk (j148_X12_wideOf l D zt r g I25363 A25363 L25363 x25357 hV25363 (by omega) (by omega)) (SP.same _) (fun _ h => h) (gi_V (List.mem_cons_of_mem _ (List.mem_append_left _ (List.mem_of_getElem? (i := 11) rfl))) (List.mem_cons_of_mem _ (List.mem_append_left _ (List.mem_of_getElem? (i := 12) rfl))) (List.mem_cons_of_mem _ (List.mem_append_left _ (List.mem_of_getElem? (i := 13) rfl))) (List.mem_cons_of_mem _ (List.mem_append_left _ (List.mem_of_getElem? (i := 2) rfl))) (gi_sub (fun w h => (List.mem_cons_of_mem _ (List.mem_append_right _ (List.mem_append_right _ (List.mem_append_right _ (List.mem_append_right _ (List.mem_append_right _ (List.mem_append_left _ h)))))))) zg_j148_X12_wideOf)) rfl rfl rfl (by decide +kernel) ⟨Nat.le_of_ble_eq_true rfl, Nat.le_of_ble_eq_true rfl⟩ 0 rfl rfl rfl rfl (Nat.le_of_ble_eq_true rfl) ⟨Nat.le_of_ble_eq_true rfl, Nat.le_of_ble_eq_true rfl⟩ dX12_whose_51 (fun v ty' w' hp hk' => ?_)
              obtain ⟨rfl, rfl⟩ := hp
              show GW κ 7 0 0 (wM r g I25363 A25363 L25363) 54 [(5, .int x25357), (4, .int x25358), (3, .int x25359), (0, .ref (r 0)), (1, .int z1), (2, .int z2)] [.int (A25363 11 (5 * (I25363 15) + x25357).toNatClampNeg)]
              refine g_norm (v := (A 11 (5 * (I 15) + x25357).toNatClampNeg)) (by rw [show I25363 15 = (I 15) from ((hI25363 15 rfl).trans (hI25352 15 rfl))]; exact ((congrFun (hA25363 11 rfl) _).trans (congrFun (hA25352 11 rfl) _))) ?_
              have f25541 : 0 ≤ (A 11 (5 * (I 15) + x25357).toNatClampNeg).toInt ∧ (A 11 (5 * (I 15) + x25357).toNatClampNeg).toInt ≤ 16 := IvM_a11 hIv _
              refine g_iload_n hk dX12_whose_54 rfl ?_
              refine g_icmp_eq (tgt := 61) (a := (A 11 (5 * (I 15) + x25357).toNatClampNeg).toInt) (b := z2.toInt) hk dX12_whose_55 (by decide) rfl rfl (fun c25542 => ?_) (fun c25542 => ?_)
              · skip
                refine g_aload_n hk dX12_whose_61 rfl ?_
                refine g_iload hk dX12_whose_62 rfl ?_
                refine g_iload_n hk dX12_whose_64 rfl ?_
                refine g_callV (n := 2) hk (j169_X12_distanceOf l D zt r g I25363 A25363 L25363 x25357 z1 hV25363 (by omega) (by omega) (by omega) (by omega) (by first | (rw [show (A25363 11 (5 * (I25363 15) + x25357).toNatClampNeg) = (A 11 (5 * (I 15) + x25357).toNatClampNeg) from (by rw [show I25363 15 = (I 15) from ((hI25363 15 rfl).trans (hI25352 15 rfl))]; exact ((congrFun (hA25363 11 rfl) _).trans (congrFun (hA25352 11 rfl) _)))] <;> omega) | omega) (by first | (rw [show (A25363 11 (5 * (I25363 15) + x25357).toNatClampNeg) = (A 11 (5 * (I 15) + x25357).toNatClampNeg) from (by rw [show I25363 15 = (I 15) from ((hI25363 15 rfl).trans (hI25352 15 rfl))]; exact ((congrFun (hA25363 11 rfl) _).trans (congrFun (hA25352 11 rfl) _)))] <;> omega) | omega)) (SP.same _) (fun _ h => h) (gi_V (List.mem_cons_of_mem _ (List.mem_append_left _ (List.mem_of_getElem? (i := 14) rfl))) (List.mem_cons_of_mem _ (List.mem_append_left _ (List.mem_of_getElem? (i := 15) rfl))) (List.mem_cons_of_mem _ (List.mem_append_left _ (List.mem_of_getElem? (i := 16) rfl))) (List.mem_cons_of_mem _ (List.mem_append_left _ (List.mem_of_getElem? (i := 2) rfl))) (gi_sub (fun w h => (List.mem_cons_of_mem _ (List.mem_append_right _ (List.mem_append_right _ (List.mem_append_right _ (List.mem_append_right _ (List.mem_append_right _ (List.mem_append_right _ (List.mem_append_left _ h))))))))) zg_j169_X12_distanceOf)) rfl rfl rfl (by decide +kernel) ⟨Nat.le_of_ble_eq_true rfl, Nat.le_of_ble_eq_true rfl⟩ 0 rfl rfl rfl rfl (Nat.le_of_ble_eq_true rfl) ⟨Nat.le_of_ble_eq_true rfl, Nat.le_of_ble_eq_true rfl⟩ dX12_whose_65 (fun v ty' w' hp hk' => ?_)
                obtain ⟨I25544, A25544, L25544, hI25544, hA25544, hV25544, y25543, r25545, rfl, rfl⟩ := hp
                have f25546 := IvM_f18 hV25544
                show GW κ 7 0 0 (wM r g I25544 A25544 L25544) 68 [(5, .int x25357), (4, .int x25358), (3, .int x25359), (0, .ref (r 0)), (1, .int z1), (2, .int z2)] [.int y25543]
                refine g_istore (lv' := [(6, .int y25543), (5, .int x25357), (4, .int x25358), (3, .int x25359), (0, .ref (r 0)), (1, .int z1), (2, .int z2)]) hk dX12_whose_68 (by decide) rfl ?_
                refine g_iload_n hk dX12_whose_70 rfl ?_
                refine g_if_lt (tgt := 84) (a := x25359.toInt) hk dX12_whose_71 (by decide) rfl (fun c25547 => ?_) (fun c25547 => ?_)
                · skip
                  refine g_iload hk dX12_whose_84 rfl ?_
                  refine g_istore_n (lv' := [(3, .int x25357), (6, .int y25543), (5, .int x25357), (4, .int x25358), (0, .ref (r 0)), (1, .int z1), (2, .int z2)]) hk dX12_whose_86 (by decide) rfl ?_
                  refine g_iload hk dX12_whose_87 rfl ?_
                  refine g_istore (lv' := [(4, .int y25543), (3, .int x25357), (6, .int y25543), (5, .int x25357), (0, .ref (r 0)), (1, .int z1), (2, .int z2)]) hk dX12_whose_89 (by decide) rfl ?_
                  obtain ⟨y25548, ey25548⟩ : ∃ y : Int32, y = x25357 + Int32.ofInt 1 := ⟨_, rfl⟩
                  have hy25548 : y25548.toInt = x25357.toInt + 1 := i32_add ey25548 rfl (by decide) (by omega) (by omega)
                  refine g_iinc (v := y25548) (lv' := [(5, .int y25548), (4, .int y25543), (3, .int x25357), (6, .int y25543), (0, .ref (r 0)), (1, .int z1), (2, .int z2)]) hk 3 dX12_whose_91 rfl ey25548.symm (by decide) rfl ?_
                  refine g_goto (tgt := 34) hk dX12_whose_94 (by decide) ?_
                  have b25549l := Int32.le_toInt y25543
                  have b25549h := Int32.toInt_lt y25543
                  exact g_lv (List.forall_mem_cons.mpr ⟨List.mem_of_getElem? (i := 0) rfl, (List.forall_mem_cons.mpr ⟨List.mem_of_getElem? (i := 1) rfl, (List.forall_mem_cons.mpr ⟨List.mem_of_getElem? (i := 2) rfl, (List.forall_mem_cons.mpr ⟨List.mem_of_getElem? (i := 4) rfl, (List.forall_mem_cons.mpr ⟨List.mem_of_getElem? (i := 5) rfl, (List.forall_mem_cons.mpr ⟨List.mem_of_getElem? (i := 6) rfl, (fun _ h => absurd h List.not_mem_nil)⟩)⟩)⟩)⟩)⟩)⟩) (ih25536 y25548 y25543 x25357 I25544 A25544 L25544 (show Md [18, 19, 20] I25352 I25544 from Md.tr hI25363 (show Md [18, 19, 20] I25363 I25544 from (Md.tr Md.rf hI25544 rfl)) rfl) (show Md [19, 20, 21] A25352 A25544 from Md.tr hA25363 (show Md [19, 20, 21] A25363 A25544 from (Md.tr Md.rf hA25544 rfl)) rfl) hV25544 (by omega) (by omega) (by omega) (by omega) (by omega) (by omega))
                · skip
                  refine g_iload hk dX12_whose_74 rfl ?_
                  refine g_iload hk dX12_whose_76 rfl ?_
                  have b25550l := Int32.le_toInt y25543
                  have b25550h := Int32.toInt_lt y25543
                  have b25551l := Int32.le_toInt x25358
                  have b25551h := Int32.toInt_lt x25358
                  refine g_icmp_lt (tgt := 84) (a := y25543.toInt) (b := x25358.toInt) hk dX12_whose_78 (by decide) rfl rfl (fun c25552 => ?_) (fun c25552 => ?_)
                  · skip
                    refine g_iload hk dX12_whose_84 rfl ?_
                    refine g_istore_n (lv' := [(3, .int x25357), (6, .int y25543), (5, .int x25357), (4, .int x25358), (0, .ref (r 0)), (1, .int z1), (2, .int z2)]) hk dX12_whose_86 (by decide) rfl ?_
                    refine g_iload hk dX12_whose_87 rfl ?_
                    refine g_istore (lv' := [(4, .int y25543), (3, .int x25357), (6, .int y25543), (5, .int x25357), (0, .ref (r 0)), (1, .int z1), (2, .int z2)]) hk dX12_whose_89 (by decide) rfl ?_
                    obtain ⟨y25553, ey25553⟩ : ∃ y : Int32, y = x25357 + Int32.ofInt 1 := ⟨_, rfl⟩
                    have hy25553 : y25553.toInt = x25357.toInt + 1 := i32_add ey25553 rfl (by decide) (by omega) (by omega)
                    refine g_iinc (v := y25553) (lv' := [(5, .int y25553), (4, .int y25543), (3, .int x25357), (6, .int y25543), (0, .ref (r 0)), (1, .int z1), (2, .int z2)]) hk 3 dX12_whose_91 rfl ey25553.symm (by decide) rfl ?_
                    refine g_goto (tgt := 34) hk dX12_whose_94 (by decide) ?_
                    exact g_lv (List.forall_mem_cons.mpr ⟨List.mem_of_getElem? (i := 0) rfl, (List.forall_mem_cons.mpr ⟨List.mem_of_getElem? (i := 1) rfl, (List.forall_mem_cons.mpr ⟨List.mem_of_getElem? (i := 2) rfl, (List.forall_mem_cons.mpr ⟨List.mem_of_getElem? (i := 4) rfl, (List.forall_mem_cons.mpr ⟨List.mem_of_getElem? (i := 5) rfl, (List.forall_mem_cons.mpr ⟨List.mem_of_getElem? (i := 6) rfl, (fun _ h => absurd h List.not_mem_nil)⟩)⟩)⟩)⟩)⟩)⟩) (ih25536 y25553 y25543 x25357 I25544 A25544 L25544 (show Md [18, 19, 20] I25352 I25544 from Md.tr hI25363 (show Md [18, 19, 20] I25363 I25544 from (Md.tr Md.rf hI25544 rfl)) rfl) (show Md [19, 20, 21] A25352 A25544 from Md.tr hA25363 (show Md [19, 20, 21] A25363 A25544 from (Md.tr Md.rf hA25544 rfl)) rfl) hV25544 (by omega) (by omega) (by omega) (by omega) (by omega) (by omega))
                  · skip
                    refine g_goto (tgt := 91) hk dX12_whose_81 (by decide) ?_
                    obtain ⟨y25554, ey25554⟩ : ∃ y : Int32, y = x25357 + Int32.ofInt 1 := ⟨_, rfl⟩
                    have hy25554 : y25554.toInt = x25357.toInt + 1 := i32_add ey25554 rfl (by decide) (by omega) (by omega)
                    refine g_iinc (v := y25554) (lv' := [(5, .int y25554), (6, .int y25543), (4, .int x25358), (3, .int x25359), (0, .ref (r 0)), (1, .int z1), (2, .int z2)]) hk 1 dX12_whose_91 rfl ey25554.symm (by decide) rfl ?_
                    refine g_goto (tgt := 34) hk dX12_whose_94 (by decide) ?_
                    exact g_lv (List.forall_mem_cons.mpr ⟨List.mem_of_getElem? (i := 0) rfl, (List.forall_mem_cons.mpr ⟨List.mem_of_getElem? (i := 2) rfl, (List.forall_mem_cons.mpr ⟨List.mem_of_getElem? (i := 3) rfl, (List.forall_mem_cons.mpr ⟨List.mem_of_getElem? (i := 4) rfl, (List.forall_mem_cons.mpr ⟨List.mem_of_getElem? (i := 5) rfl, (List.forall_mem_cons.mpr ⟨List.mem_of_getElem? (i := 6) rfl, (fun _ h => absurd h List.not_mem_nil)⟩)⟩)⟩)⟩)⟩)⟩) (ih25536 y25554 x25358 x25359 I25544 A25544 L25544 (show Md [18, 19, 20] I25352 I25544 from Md.tr hI25363 (show Md [18, 19, 20] I25363 I25544 from (Md.tr Md.rf hI25544 rfl)) rfl) (show Md [19, 20, 21] A25352 A25544 from Md.tr hA25363 (show Md [19, 20, 21] A25363 A25544 from (Md.tr Md.rf hA25544 rfl)) rfl) hV25544 (by omega) (by omega) (by omega) (by omega) (by omega) (by omega))
              · skip
                refine g_goto (tgt := 91) hk dX12_whose_58 (by decide) ?_
                obtain ⟨y25555, ey25555⟩ : ∃ y : Int32, y = x25357 + Int32.ofInt 1 := ⟨_, rfl⟩
                have hy25555 : y25555.toInt = x25357.toInt + 1 := i32_add ey25555 rfl (by decide) (by omega) (by omega)
                refine g_iinc (v := y25555) (lv' := [(5, .int y25555), (4, .int x25358), (3, .int x25359), (0, .ref (r 0)), (1, .int z1), (2, .int z2)]) hk 0 dX12_whose_91 rfl ey25555.symm (by decide) rfl ?_
                refine g_goto (tgt := 34) hk dX12_whose_94 (by decide) ?_
                have b25556l := Int32.le_toInt x25358
                have b25556h := Int32.toInt_lt x25358
                exact g_lv (List.forall_mem_cons.mpr ⟨List.mem_of_getElem? (i := 0) rfl, (List.forall_mem_cons.mpr ⟨List.mem_of_getElem? (i := 1) rfl, (List.forall_mem_cons.mpr ⟨List.mem_of_getElem? (i := 2) rfl, (List.forall_mem_cons.mpr ⟨List.mem_of_getElem? (i := 3) rfl, (List.forall_mem_cons.mpr ⟨List.mem_of_getElem? (i := 4) rfl, (List.forall_mem_cons.mpr ⟨List.mem_of_getElem? (i := 5) rfl, (fun _ h => absurd h List.not_mem_nil)⟩)⟩)⟩)⟩)⟩)⟩) (ih25536 y25555 x25358 x25359 I25363 A25363 L25363 (show Md [18, 19, 20] I25352 I25363 from Md.tr hI25363 (show Md [18, 19, 20] I25363 I25363 from Md.rf) rfl) (show Md [19, 20, 21] A25352 A25363 from Md.tr hA25363 (show Md [19, 20, 21] A25363 A25363 from Md.rf) rfl) hV25363 (by omega) (by omega) (by omega) (by omega) (by omega) (by omega))
          by_cases c25557 : (I 15).toInt = 1
          · have ec25557 : (I 15) = 1 := Int32.toInt_inj.mp c25557
            rw [ec25557]
            show GW κ 7 0 0 (wM r g I25363 A25363 L25363) 44 [(5, .int x25357), (4, .int x25358), (3, .int x25359), (0, .ref (r 0)), (1, .int z1), (2, .int z2)] [.int 1, .ref (r 11), .int x25357]
            refine lM_10 (v := (A 10 1)) hk (vp_in_iff.mpr ⟨by decide, by decide⟩) ((congrFun (hA25363 10 rfl) _).trans (congrFun (hA25352 10 rfl) _)) dX12_whose_44 ?_
            have f25558 := IvM_s10_1 hIv
            refine g_icmp_ge (tgt := 97) (a := x25357.toInt) (b := (A 10 1).toInt) hk dX12_whose_45 (by decide) rfl rfl (fun c25559 => ?_) (fun c25559 => ?_)
            · skip
              refine g_iload_n hk dX12_whose_97 rfl ?_
              exact g_iret hk hR rfl ⟨I25363, A25363, L25363, (show Md [18, 19, 20] I I25363 from (Md.tr (Md.tr Md.rf hI25352 rfl) hI25363 rfl)), (show Md [18, 19, 20, 21] A A25363 from (Md.tr (Md.tr Md.rf hA25352 rfl) hA25363 rfl)), hV25363, x25359, (by omega), (by omega), rfl, rfl⟩ dX12_whose_98
            · skip
              refine g_aload_n hk dX12_whose_48 rfl ?_
              refine g_iload hk dX12_whose_49 rfl ?_
              refine g_callV (n := 1) hk (j148_X12_wideOf l D zt r g I25363 A25363 L25363 x25357 hV25363 (by omega) (by omega)) (SP.same _) (fun _ h => h) (gi_V (List.mem_cons_of_mem _ (List.mem_append_left _ (List.mem_of_getElem? (i := 11) rfl))) (List.mem_cons_of_mem _ (List.mem_append_left _ (List.mem_of_getElem? (i := 12) rfl))) (List.mem_cons_of_mem _ (List.mem_append_left _ (List.mem_of_getElem? (i := 13) rfl))) (List.mem_cons_of_mem _ (List.mem_append_left _ (List.mem_of_getElem? (i := 2) rfl))) (gi_sub (fun w h => (List.mem_cons_of_mem _ (List.mem_append_right _ (List.mem_append_right _ (List.mem_append_right _ (List.mem_append_right _ (List.mem_append_right _ (List.mem_append_left _ h)))))))) zg_j148_X12_wideOf)) rfl rfl rfl (by decide +kernel) ⟨Nat.le_of_ble_eq_true rfl, Nat.le_of_ble_eq_true rfl⟩ 0 rfl rfl rfl rfl (Nat.le_of_ble_eq_true rfl) ⟨Nat.le_of_ble_eq_true rfl, Nat.le_of_ble_eq_true rfl⟩ dX12_whose_51 (fun v ty' w' hp hk' => ?_)
              obtain ⟨rfl, rfl⟩ := hp
              show GW κ 7 0 0 (wM r g I25363 A25363 L25363) 54 [(5, .int x25357), (4, .int x25358), (3, .int x25359), (0, .ref (r 0)), (1, .int z1), (2, .int z2)] [.int (A25363 11 (5 * (I25363 15) + x25357).toNatClampNeg)]
              refine g_norm (v := (A 11 (5 * (I 15) + x25357).toNatClampNeg)) (by rw [show I25363 15 = (I 15) from ((hI25363 15 rfl).trans (hI25352 15 rfl))]; exact ((congrFun (hA25363 11 rfl) _).trans (congrFun (hA25352 11 rfl) _))) ?_
              have f25560 : 0 ≤ (A 11 (5 * (I 15) + x25357).toNatClampNeg).toInt ∧ (A 11 (5 * (I 15) + x25357).toNatClampNeg).toInt ≤ 16 := IvM_a11 hIv _
              refine g_iload_n hk dX12_whose_54 rfl ?_
              refine g_icmp_eq (tgt := 61) (a := (A 11 (5 * (I 15) + x25357).toNatClampNeg).toInt) (b := z2.toInt) hk dX12_whose_55 (by decide) rfl rfl (fun c25561 => ?_) (fun c25561 => ?_)
              · skip
                refine g_aload_n hk dX12_whose_61 rfl ?_
                refine g_iload hk dX12_whose_62 rfl ?_
                refine g_iload_n hk dX12_whose_64 rfl ?_
                refine g_callV (n := 2) hk (j169_X12_distanceOf l D zt r g I25363 A25363 L25363 x25357 z1 hV25363 (by omega) (by omega) (by omega) (by omega) (by first | (rw [show (A25363 11 (5 * (I25363 15) + x25357).toNatClampNeg) = (A 11 (5 * (I 15) + x25357).toNatClampNeg) from (by rw [show I25363 15 = (I 15) from ((hI25363 15 rfl).trans (hI25352 15 rfl))]; exact ((congrFun (hA25363 11 rfl) _).trans (congrFun (hA25352 11 rfl) _)))] <;> omega) | omega) (by first | (rw [show (A25363 11 (5 * (I25363 15) + x25357).toNatClampNeg) = (A 11 (5 * (I 15) + x25357).toNatClampNeg) from (by rw [show I25363 15 = (I 15) from ((hI25363 15 rfl).trans (hI25352 15 rfl))]; exact ((congrFun (hA25363 11 rfl) _).trans (congrFun (hA25352 11 rfl) _)))] <;> omega) | omega)) (SP.same _) (fun _ h => h) (gi_V (List.mem_cons_of_mem _ (List.mem_append_left _ (List.mem_of_getElem? (i := 14) rfl))) (List.mem_cons_of_mem _ (List.mem_append_left _ (List.mem_of_getElem? (i := 15) rfl))) (List.mem_cons_of_mem _ (List.mem_append_left _ (List.mem_of_getElem? (i := 16) rfl))) (List.mem_cons_of_mem _ (List.mem_append_left _ (List.mem_of_getElem? (i := 2) rfl))) (gi_sub (fun w h => (List.mem_cons_of_mem _ (List.mem_append_right _ (List.mem_append_right _ (List.mem_append_right _ (List.mem_append_right _ (List.mem_append_right _ (List.mem_append_right _ (List.mem_append_left _ h))))))))) zg_j169_X12_distanceOf)) rfl rfl rfl (by decide +kernel) ⟨Nat.le_of_ble_eq_true rfl, Nat.le_of_ble_eq_true rfl⟩ 0 rfl rfl rfl rfl (Nat.le_of_ble_eq_true rfl) ⟨Nat.le_of_ble_eq_true rfl, Nat.le_of_ble_eq_true rfl⟩ dX12_whose_65 (fun v ty' w' hp hk' => ?_)
                obtain ⟨I25563, A25563, L25563, hI25563, hA25563, hV25563, y25562, r25564, rfl, rfl⟩ := hp
                have f25565 := IvM_f18 hV25563
                show GW κ 7 0 0 (wM r g I25563 A25563 L25563) 68 [(5, .int x25357), (4, .int x25358), (3, .int x25359), (0, .ref (r 0)), (1, .int z1), (2, .int z2)] [.int y25562]
                refine g_istore (lv' := [(6, .int y25562), (5, .int x25357), (4, .int x25358), (3, .int x25359), (0, .ref (r 0)), (1, .int z1), (2, .int z2)]) hk dX12_whose_68 (by decide) rfl ?_
                refine g_iload_n hk dX12_whose_70 rfl ?_
                refine g_if_lt (tgt := 84) (a := x25359.toInt) hk dX12_whose_71 (by decide) rfl (fun c25566 => ?_) (fun c25566 => ?_)
                · skip
                  refine g_iload hk dX12_whose_84 rfl ?_
                  refine g_istore_n (lv' := [(3, .int x25357), (6, .int y25562), (5, .int x25357), (4, .int x25358), (0, .ref (r 0)), (1, .int z1), (2, .int z2)]) hk dX12_whose_86 (by decide) rfl ?_
                  refine g_iload hk dX12_whose_87 rfl ?_
                  refine g_istore (lv' := [(4, .int y25562), (3, .int x25357), (6, .int y25562), (5, .int x25357), (0, .ref (r 0)), (1, .int z1), (2, .int z2)]) hk dX12_whose_89 (by decide) rfl ?_
                  obtain ⟨y25567, ey25567⟩ : ∃ y : Int32, y = x25357 + Int32.ofInt 1 := ⟨_, rfl⟩
                  have hy25567 : y25567.toInt = x25357.toInt + 1 := i32_add ey25567 rfl (by decide) (by omega) (by omega)
                  refine g_iinc (v := y25567) (lv' := [(5, .int y25567), (4, .int y25562), (3, .int x25357), (6, .int y25562), (0, .ref (r 0)), (1, .int z1), (2, .int z2)]) hk 3 dX12_whose_91 rfl ey25567.symm (by decide) rfl ?_
                  refine g_goto (tgt := 34) hk dX12_whose_94 (by decide) ?_
                  have b25568l := Int32.le_toInt y25562
                  have b25568h := Int32.toInt_lt y25562
                  exact g_lv (List.forall_mem_cons.mpr ⟨List.mem_of_getElem? (i := 0) rfl, (List.forall_mem_cons.mpr ⟨List.mem_of_getElem? (i := 1) rfl, (List.forall_mem_cons.mpr ⟨List.mem_of_getElem? (i := 2) rfl, (List.forall_mem_cons.mpr ⟨List.mem_of_getElem? (i := 4) rfl, (List.forall_mem_cons.mpr ⟨List.mem_of_getElem? (i := 5) rfl, (List.forall_mem_cons.mpr ⟨List.mem_of_getElem? (i := 6) rfl, (fun _ h => absurd h List.not_mem_nil)⟩)⟩)⟩)⟩)⟩)⟩) (ih25536 y25567 y25562 x25357 I25563 A25563 L25563 (show Md [18, 19, 20] I25352 I25563 from Md.tr hI25363 (show Md [18, 19, 20] I25363 I25563 from (Md.tr Md.rf hI25563 rfl)) rfl) (show Md [19, 20, 21] A25352 A25563 from Md.tr hA25363 (show Md [19, 20, 21] A25363 A25563 from (Md.tr Md.rf hA25563 rfl)) rfl) hV25563 (by omega) (by omega) (by omega) (by omega) (by omega) (by omega))
                · skip
                  refine g_iload hk dX12_whose_74 rfl ?_
                  refine g_iload hk dX12_whose_76 rfl ?_
                  have b25569l := Int32.le_toInt y25562
                  have b25569h := Int32.toInt_lt y25562
                  have b25570l := Int32.le_toInt x25358
                  have b25570h := Int32.toInt_lt x25358
                  refine g_icmp_lt (tgt := 84) (a := y25562.toInt) (b := x25358.toInt) hk dX12_whose_78 (by decide) rfl rfl (fun c25571 => ?_) (fun c25571 => ?_)
                  · skip
                    refine g_iload hk dX12_whose_84 rfl ?_
                    refine g_istore_n (lv' := [(3, .int x25357), (6, .int y25562), (5, .int x25357), (4, .int x25358), (0, .ref (r 0)), (1, .int z1), (2, .int z2)]) hk dX12_whose_86 (by decide) rfl ?_
                    refine g_iload hk dX12_whose_87 rfl ?_
                    refine g_istore (lv' := [(4, .int y25562), (3, .int x25357), (6, .int y25562), (5, .int x25357), (0, .ref (r 0)), (1, .int z1), (2, .int z2)]) hk dX12_whose_89 (by decide) rfl ?_
                    obtain ⟨y25572, ey25572⟩ : ∃ y : Int32, y = x25357 + Int32.ofInt 1 := ⟨_, rfl⟩
                    have hy25572 : y25572.toInt = x25357.toInt + 1 := i32_add ey25572 rfl (by decide) (by omega) (by omega)
                    refine g_iinc (v := y25572) (lv' := [(5, .int y25572), (4, .int y25562), (3, .int x25357), (6, .int y25562), (0, .ref (r 0)), (1, .int z1), (2, .int z2)]) hk 3 dX12_whose_91 rfl ey25572.symm (by decide) rfl ?_
                    refine g_goto (tgt := 34) hk dX12_whose_94 (by decide) ?_
                    exact g_lv (List.forall_mem_cons.mpr ⟨List.mem_of_getElem? (i := 0) rfl, (List.forall_mem_cons.mpr ⟨List.mem_of_getElem? (i := 1) rfl, (List.forall_mem_cons.mpr ⟨List.mem_of_getElem? (i := 2) rfl, (List.forall_mem_cons.mpr ⟨List.mem_of_getElem? (i := 4) rfl, (List.forall_mem_cons.mpr ⟨List.mem_of_getElem? (i := 5) rfl, (List.forall_mem_cons.mpr ⟨List.mem_of_getElem? (i := 6) rfl, (fun _ h => absurd h List.not_mem_nil)⟩)⟩)⟩)⟩)⟩)⟩) (ih25536 y25572 y25562 x25357 I25563 A25563 L25563 (show Md [18, 19, 20] I25352 I25563 from Md.tr hI25363 (show Md [18, 19, 20] I25363 I25563 from (Md.tr Md.rf hI25563 rfl)) rfl) (show Md [19, 20, 21] A25352 A25563 from Md.tr hA25363 (show Md [19, 20, 21] A25363 A25563 from (Md.tr Md.rf hA25563 rfl)) rfl) hV25563 (by omega) (by omega) (by omega) (by omega) (by omega) (by omega))
                  · skip
                    refine g_goto (tgt := 91) hk dX12_whose_81 (by decide) ?_
                    obtain ⟨y25573, ey25573⟩ : ∃ y : Int32, y = x25357 + Int32.ofInt 1 := ⟨_, rfl⟩
                    have hy25573 : y25573.toInt = x25357.toInt + 1 := i32_add ey25573 rfl (by decide) (by omega) (by omega)
                    refine g_iinc (v := y25573) (lv' := [(5, .int y25573), (6, .int y25562), (4, .int x25358), (3, .int x25359), (0, .ref (r 0)), (1, .int z1), (2, .int z2)]) hk 1 dX12_whose_91 rfl ey25573.symm (by decide) rfl ?_
                    refine g_goto (tgt := 34) hk dX12_whose_94 (by decide) ?_
                    exact g_lv (List.forall_mem_cons.mpr ⟨List.mem_of_getElem? (i := 0) rfl, (List.forall_mem_cons.mpr ⟨List.mem_of_getElem? (i := 2) rfl, (List.forall_mem_cons.mpr ⟨List.mem_of_getElem? (i := 3) rfl, (List.forall_mem_cons.mpr ⟨List.mem_of_getElem? (i := 4) rfl, (List.forall_mem_cons.mpr ⟨List.mem_of_getElem? (i := 5) rfl, (List.forall_mem_cons.mpr ⟨List.mem_of_getElem? (i := 6) rfl, (fun _ h => absurd h List.not_mem_nil)⟩)⟩)⟩)⟩)⟩)⟩) (ih25536 y25573 x25358 x25359 I25563 A25563 L25563 (show Md [18, 19, 20] I25352 I25563 from Md.tr hI25363 (show Md [18, 19, 20] I25363 I25563 from (Md.tr Md.rf hI25563 rfl)) rfl) (show Md [19, 20, 21] A25352 A25563 from Md.tr hA25363 (show Md [19, 20, 21] A25363 A25563 from (Md.tr Md.rf hA25563 rfl)) rfl) hV25563 (by omega) (by omega) (by omega) (by omega) (by omega) (by omega))
              · skip
                refine g_goto (tgt := 91) hk dX12_whose_58 (by decide) ?_
                obtain ⟨y25574, ey25574⟩ : ∃ y : Int32, y = x25357 + Int32.ofInt 1 := ⟨_, rfl⟩
                have hy25574 : y25574.toInt = x25357.toInt + 1 := i32_add ey25574 rfl (by decide) (by omega) (by omega)
                refine g_iinc (v := y25574) (lv' := [(5, .int y25574), (4, .int x25358), (3, .int x25359), (0, .ref (r 0)), (1, .int z1), (2, .int z2)]) hk 0 dX12_whose_91 rfl ey25574.symm (by decide) rfl ?_
                refine g_goto (tgt := 34) hk dX12_whose_94 (by decide) ?_
                have b25575l := Int32.le_toInt x25358
                have b25575h := Int32.toInt_lt x25358
                exact g_lv (List.forall_mem_cons.mpr ⟨List.mem_of_getElem? (i := 0) rfl, (List.forall_mem_cons.mpr ⟨List.mem_of_getElem? (i := 1) rfl, (List.forall_mem_cons.mpr ⟨List.mem_of_getElem? (i := 2) rfl, (List.forall_mem_cons.mpr ⟨List.mem_of_getElem? (i := 3) rfl, (List.forall_mem_cons.mpr ⟨List.mem_of_getElem? (i := 4) rfl, (List.forall_mem_cons.mpr ⟨List.mem_of_getElem? (i := 5) rfl, (fun _ h => absurd h List.not_mem_nil)⟩)⟩)⟩)⟩)⟩)⟩) (ih25536 y25574 x25358 x25359 I25363 A25363 L25363 (show Md [18, 19, 20] I25352 I25363 from Md.tr hI25363 (show Md [18, 19, 20] I25363 I25363 from Md.rf) rfl) (show Md [19, 20, 21] A25352 A25363 from Md.tr hA25363 (show Md [19, 20, 21] A25363 A25363 from Md.rf) rfl) hV25363 (by omega) (by omega) (by omega) (by omega) (by omega) (by omega))
          exfalso; omega
      have k25576 : (0 : Int32).toInt = 0 := rfl
      have k25577 : ((-2) : Int32).toInt = (-2) := rfl
      obtain ⟨n25578, n25578a, n25578b⟩ : ∃ n : Nat, 6 - (0 : Int32).toInt < (n : Int) ∧ 0 < n := ⟨((6 - (0 : Int32).toInt : Int)).toNat + 1, by omega, by omega⟩
      exact lp25533 n25578 0 0 (-2) I25352 A25352 L25352 Md.rf Md.rf hV25352 (by omega) (by omega) (by omega) (by omega) n25578a n25578b
def wo_j207_X12_rankOf : List Cond := [Cond.fieldLink RX12 91 "WarpDeskModel" "farBy" "[I"]
def wz_j207_X12_rankOf : List Cond := .code yX12_rankOf cX12_rankOf 4 (some .int) :: (wo_j207_X12_rankOf ++ (wsX120 ++ ([] : List Cond)))
theorem zg_j207_X12_rankOf : ∀ w ∈ wz_j207_X12_rankOf, goodWord w = true := zg_cons rfl (zg_app (by decide +kernel) (zg_app zgU_wsX120 zg_nil))
theorem zi_j207_X12_rankOf : ∀ w ∈ wz_j207_X12_rankOf, w ∈ lw_tbl := zi_cons zw_1891 (zi_app (zi_cons zw_1426 zi_nil) (zi_app inX12 zi_nil))
set_option maxHeartbeats 4000000 in
set_option maxRecDepth 100000 in
theorem j207_X12_rankOf (l : Launch) (D : va_G) (zt : Nat × Nat × Nat × (Nat → Nat) × (Nat → Nat)) (r : Nat → Nat) (g : Nat → ClassId) (I : Nat → Int32) (A : Nat → Nat → Int32) (L : Nat → Nat → Int64) (z1 : Int32) (hIv : IvM I A) (hp0 : 0 ≤ z1.toInt) (hp1 : z1.toInt ≤ 159) : GM l D zt (tyM g) yX12_rankOf wz_j207_X12_rankOf ({ frames := 0, cells := 0, slots := 0, locals := 0 } : Room) [.ref (r 0), .int z1] (wM r g I A L) (fun v _ w' => ∃ y0 : Int32, v = some (.int y0) ∧ w' = wM r g I A L) 0 0 := by
  refine GM.of (cc := cX12_rankOf) (maxL := 4) (ret := (some .int)) (own := RX12) (lv := [(0, .ref (r 0)), (1, .int z1)]) (by decide) rfl rfl (Nat.le_of_ble_eq_true rfl) rfl (fun κ sz hk hR hN => ?_)
  have hin12 : ∀ w ∈ u_ws RX12 TX12 55, w ∈ wz_j207_X12_rankOf := fun w h => (List.mem_cons_of_mem _ (List.mem_append_right _ (List.mem_append_left _ h)))
  refine g_iconst (v := 0) hk dX12_rankOf_0 (by decide) ?_
  refine g_istore_n (lv' := [(2, .int 0), (0, .ref (r 0)), (1, .int z1)]) hk dX12_rankOf_1 (by decide) rfl ?_
  refine g_iconst (v := 0) hk dX12_rankOf_2 (by decide) ?_
  refine g_istore_n (lv' := [(3, .int 0), (2, .int 0), (0, .ref (r 0)), (1, .int z1)]) hk dX12_rankOf_3 (by decide) rfl ?_
  have lp25670 : ∀ (n25671 : Nat) (x25594 : Int32) (x25595 : Int32), (0 ≤ x25594.toInt) → (x25594.toInt ≤ 160) → (161 - x25594.toInt < (n25671 : Int)) → (0 < n25671) → GW κ 4 0 0 (wM r g I A L) 4 [(3, .int x25594), (2, .int x25595), (0, .ref (r 0)), (1, .int z1)] [] := by
    intro n25671
    induction n25671 with
    | zero =>
      intro x25594 x25595 h25668 h25669 m25672 m25672z
      exact absurd m25672z (Nat.lt_irrefl 0)
    | succ n25671 ih25673 =>
      intro x25594 x25595 h25668 h25669 m25672 m25672z
      refine g_iload_n hk dX12_rankOf_4 rfl ?_
      refine g_sipush (v := 160) hk dX12_rankOf_5 (by decide) ?_
      refine g_icmp_ge (tgt := 64) (a := x25594.toInt) (b := 160) hk dX12_rankOf_8 (by decide) rfl rfl (fun c25674 => ?_) (fun c25674 => ?_)
      · skip
        refine g_iload_n hk dX12_rankOf_64 rfl ?_
        have b25675l := Int32.le_toInt x25595
        have b25675h := Int32.toInt_lt x25595
        exact g_iret hk hR rfl ⟨x25595, rfl, rfl⟩ dX12_rankOf_65
      · skip
        refine g_aload_n hk dX12_rankOf_11 rfl ?_
        refine gM_r0_48 hk hin12 (List.mem_cons_of_mem _ (List.mem_append_left _ (List.mem_of_getElem? (i := 0) rfl))) dX12_rankOf_12 ?_
        refine g_iload_n hk dX12_rankOf_15 rfl ?_
        refine lM_24 (v := (A 24 x25594.toNatClampNeg)) hk (vp_in_iff.mpr ⟨by omega, by omega⟩) rfl dX12_rankOf_16 ?_
        have b25676l := Int32.le_toInt (A 24 x25594.toNatClampNeg)
        have b25676h := Int32.toInt_lt (A 24 x25594.toNatClampNeg)
        refine g_if_lt (tgt := 58) (a := (A 24 x25594.toNatClampNeg).toInt) hk dX12_rankOf_17 (by decide) rfl (fun c25677 => ?_) (fun c25677 => ?_)
        · skip
          obtain ⟨y25678, ey25678⟩ : ∃ y : Int32, y = x25594 + Int32.ofInt 1 := ⟨_, rfl⟩
          have hy25678 : y25678.toInt = x25594.toInt + 1 := i32_add ey25678 rfl (by decide) (by omega) (by omega)
          refine g_iinc (v := y25678) (lv' := [(3, .int y25678), (2, .int x25595), (0, .ref (r 0)), (1, .int z1)]) hk 0 dX12_rankOf_58 rfl ey25678.symm (by decide) rfl ?_
          refine g_goto (tgt := 4) hk dX12_rankOf_61 (by decide) ?_
          have b25679l := Int32.le_toInt x25595
          have b25679h := Int32.toInt_lt x25595
          exact g_lv (List.forall_mem_cons.mpr ⟨List.mem_of_getElem? (i := 0) rfl, (List.forall_mem_cons.mpr ⟨List.mem_of_getElem? (i := 1) rfl, (List.forall_mem_cons.mpr ⟨List.mem_of_getElem? (i := 2) rfl, (List.forall_mem_cons.mpr ⟨List.mem_of_getElem? (i := 3) rfl, (fun _ h => absurd h List.not_mem_nil)⟩)⟩)⟩)⟩) (ih25673 y25678 x25595 (by omega) (by omega) (by omega) (by omega))
        · skip
          refine g_aload_n hk dX12_rankOf_20 rfl ?_
          refine gM_r0_48 hk hin12 (List.mem_cons_of_mem _ (List.mem_append_left _ (List.mem_of_getElem? (i := 0) rfl))) dX12_rankOf_21 ?_
          refine g_iload_n hk dX12_rankOf_24 rfl ?_
          refine lM_24 (v := (A 24 x25594.toNatClampNeg)) hk (vp_in_iff.mpr ⟨by omega, by omega⟩) rfl dX12_rankOf_25 ?_
          refine g_aload_n hk dX12_rankOf_26 rfl ?_
          refine gM_r0_48 hk hin12 (List.mem_cons_of_mem _ (List.mem_append_left _ (List.mem_of_getElem? (i := 0) rfl))) dX12_rankOf_27 ?_
          refine g_iload_n hk dX12_rankOf_30 rfl ?_
          refine lM_24 (v := (A 24 z1.toNatClampNeg)) hk (vp_in_iff.mpr ⟨by omega, by omega⟩) rfl dX12_rankOf_31 ?_
          have b25680l := Int32.le_toInt (A 24 z1.toNatClampNeg)
          have b25680h := Int32.toInt_lt (A 24 z1.toNatClampNeg)
          refine g_icmp_lt (tgt := 55) (a := (A 24 x25594.toNatClampNeg).toInt) (b := (A 24 z1.toNatClampNeg).toInt) hk dX12_rankOf_32 (by decide) rfl rfl (fun c25681 => ?_) (fun c25681 => ?_)
          · skip
            have b25682l := Int32.le_toInt x25595
            have b25682h := Int32.toInt_lt x25595
            obtain ⟨y25683, ey25683⟩ : ∃ y : Int32, y = x25595 + Int32.ofInt 1 := ⟨_, rfl⟩
            refine g_iinc (v := y25683) (lv' := [(2, .int y25683), (3, .int x25594), (0, .ref (r 0)), (1, .int z1)]) hk 1 dX12_rankOf_55 rfl ey25683.symm (by decide) rfl ?_
            obtain ⟨y25684, ey25684⟩ : ∃ y : Int32, y = x25594 + Int32.ofInt 1 := ⟨_, rfl⟩
            have hy25684 : y25684.toInt = x25594.toInt + 1 := i32_add ey25684 rfl (by decide) (by omega) (by omega)
            refine g_iinc (v := y25684) (lv' := [(3, .int y25684), (2, .int y25683), (0, .ref (r 0)), (1, .int z1)]) hk 1 dX12_rankOf_58 rfl ey25684.symm (by decide) rfl ?_
            refine g_goto (tgt := 4) hk dX12_rankOf_61 (by decide) ?_
            have b25685l := Int32.le_toInt y25683
            have b25685h := Int32.toInt_lt y25683
            exact g_lv (List.forall_mem_cons.mpr ⟨List.mem_of_getElem? (i := 0) rfl, (List.forall_mem_cons.mpr ⟨List.mem_of_getElem? (i := 1) rfl, (List.forall_mem_cons.mpr ⟨List.mem_of_getElem? (i := 2) rfl, (List.forall_mem_cons.mpr ⟨List.mem_of_getElem? (i := 3) rfl, (fun _ h => absurd h List.not_mem_nil)⟩)⟩)⟩)⟩) (ih25673 y25684 y25683 (by omega) (by omega) (by omega) (by omega))
          · skip
            refine g_aload_n hk dX12_rankOf_35 rfl ?_
            refine gM_r0_48 hk hin12 (List.mem_cons_of_mem _ (List.mem_append_left _ (List.mem_of_getElem? (i := 0) rfl))) dX12_rankOf_36 ?_
            refine g_iload_n hk dX12_rankOf_39 rfl ?_
            refine lM_24 (v := (A 24 x25594.toNatClampNeg)) hk (vp_in_iff.mpr ⟨by omega, by omega⟩) rfl dX12_rankOf_40 ?_
            refine g_aload_n hk dX12_rankOf_41 rfl ?_
            refine gM_r0_48 hk hin12 (List.mem_cons_of_mem _ (List.mem_append_left _ (List.mem_of_getElem? (i := 0) rfl))) dX12_rankOf_42 ?_
            refine g_iload_n hk dX12_rankOf_45 rfl ?_
            refine lM_24 (v := (A 24 z1.toNatClampNeg)) hk (vp_in_iff.mpr ⟨by omega, by omega⟩) rfl dX12_rankOf_46 ?_
            refine g_icmp_ne (tgt := 58) (a := (A 24 x25594.toNatClampNeg).toInt) (b := (A 24 z1.toNatClampNeg).toInt) hk dX12_rankOf_47 (by decide) rfl rfl (fun c25686 => ?_) (fun c25686 => ?_)
            · skip
              obtain ⟨y25687, ey25687⟩ : ∃ y : Int32, y = x25594 + Int32.ofInt 1 := ⟨_, rfl⟩
              have hy25687 : y25687.toInt = x25594.toInt + 1 := i32_add ey25687 rfl (by decide) (by omega) (by omega)
              refine g_iinc (v := y25687) (lv' := [(3, .int y25687), (2, .int x25595), (0, .ref (r 0)), (1, .int z1)]) hk 0 dX12_rankOf_58 rfl ey25687.symm (by decide) rfl ?_
              refine g_goto (tgt := 4) hk dX12_rankOf_61 (by decide) ?_
              have b25688l := Int32.le_toInt x25595
              have b25688h := Int32.toInt_lt x25595
              exact g_lv (List.forall_mem_cons.mpr ⟨List.mem_of_getElem? (i := 0) rfl, (List.forall_mem_cons.mpr ⟨List.mem_of_getElem? (i := 1) rfl, (List.forall_mem_cons.mpr ⟨List.mem_of_getElem? (i := 2) rfl, (List.forall_mem_cons.mpr ⟨List.mem_of_getElem? (i := 3) rfl, (fun _ h => absurd h List.not_mem_nil)⟩)⟩)⟩)⟩) (ih25673 y25687 x25595 (by omega) (by omega) (by omega) (by omega))
            · skip
              refine g_iload_n hk dX12_rankOf_50 rfl ?_
              refine g_iload_n hk dX12_rankOf_51 rfl ?_
              refine g_icmp_ge (tgt := 58) (a := x25594.toInt) (b := z1.toInt) hk dX12_rankOf_52 (by decide) rfl rfl (fun c25689 => ?_) (fun c25689 => ?_)
              · skip
                obtain ⟨y25690, ey25690⟩ : ∃ y : Int32, y = x25594 + Int32.ofInt 1 := ⟨_, rfl⟩
                have hy25690 : y25690.toInt = x25594.toInt + 1 := i32_add ey25690 rfl (by decide) (by omega) (by omega)
                refine g_iinc (v := y25690) (lv' := [(3, .int y25690), (2, .int x25595), (0, .ref (r 0)), (1, .int z1)]) hk 0 dX12_rankOf_58 rfl ey25690.symm (by decide) rfl ?_
                refine g_goto (tgt := 4) hk dX12_rankOf_61 (by decide) ?_
                have b25691l := Int32.le_toInt x25595
                have b25691h := Int32.toInt_lt x25595
                exact g_lv (List.forall_mem_cons.mpr ⟨List.mem_of_getElem? (i := 0) rfl, (List.forall_mem_cons.mpr ⟨List.mem_of_getElem? (i := 1) rfl, (List.forall_mem_cons.mpr ⟨List.mem_of_getElem? (i := 2) rfl, (List.forall_mem_cons.mpr ⟨List.mem_of_getElem? (i := 3) rfl, (fun _ h => absurd h List.not_mem_nil)⟩)⟩)⟩)⟩) (ih25673 y25690 x25595 (by omega) (by omega) (by omega) (by omega))
              · skip
                have b25692l := Int32.le_toInt x25595
                have b25692h := Int32.toInt_lt x25595
                obtain ⟨y25693, ey25693⟩ : ∃ y : Int32, y = x25595 + Int32.ofInt 1 := ⟨_, rfl⟩
                refine g_iinc (v := y25693) (lv' := [(2, .int y25693), (3, .int x25594), (0, .ref (r 0)), (1, .int z1)]) hk 1 dX12_rankOf_55 rfl ey25693.symm (by decide) rfl ?_
                obtain ⟨y25694, ey25694⟩ : ∃ y : Int32, y = x25594 + Int32.ofInt 1 := ⟨_, rfl⟩
                have hy25694 : y25694.toInt = x25594.toInt + 1 := i32_add ey25694 rfl (by decide) (by omega) (by omega)
                refine g_iinc (v := y25694) (lv' := [(3, .int y25694), (2, .int y25693), (0, .ref (r 0)), (1, .int z1)]) hk 1 dX12_rankOf_58 rfl ey25694.symm (by decide) rfl ?_
                refine g_goto (tgt := 4) hk dX12_rankOf_61 (by decide) ?_
                have b25695l := Int32.le_toInt y25693
                have b25695h := Int32.toInt_lt y25693
                exact g_lv (List.forall_mem_cons.mpr ⟨List.mem_of_getElem? (i := 0) rfl, (List.forall_mem_cons.mpr ⟨List.mem_of_getElem? (i := 1) rfl, (List.forall_mem_cons.mpr ⟨List.mem_of_getElem? (i := 2) rfl, (List.forall_mem_cons.mpr ⟨List.mem_of_getElem? (i := 3) rfl, (fun _ h => absurd h List.not_mem_nil)⟩)⟩)⟩)⟩) (ih25673 y25694 y25693 (by omega) (by omega) (by omega) (by omega))
  have k25696 : (0 : Int32).toInt = 0 := rfl
  obtain ⟨n25697, n25697a, n25697b⟩ : ∃ n : Nat, 161 - (0 : Int32).toInt < (n : Int) ∧ 0 < n := ⟨((161 - (0 : Int32).toInt : Int)).toNat + 1, by omega, by omega⟩
  exact lp25670 n25697 0 0 (by omega) (by omega) n25697a n25697b
def wo_j206_X12_rank : List Cond := [Cond.methodLink RX12 342 yX12_isOf, Cond.instanceMethod yX12_isOf, Cond.selects RX12 yX12_isOf yX12_isOf, Cond.initialized RX12, Cond.methodLink RX12 357 yX12_fillsFar, Cond.instanceMethod yX12_fillsFar, Cond.selects RX12 yX12_fillsFar yX12_fillsFar, Cond.methodLink RX12 375 yX12_rankOf, Cond.instanceMethod yX12_rankOf, Cond.selects RX12 yX12_rankOf yX12_rankOf]
def wz_j206_X12_rank : List Cond := .code yX12_rank cX12_rank 3 (some .int) :: (wo_j206_X12_rank ++ (wz_j168_X12_isOf ++ (wz_j186_X12_fillsFar ++ (wz_j207_X12_rankOf ++ ([] : List Cond)))))
theorem zg_j206_X12_rank : ∀ w ∈ wz_j206_X12_rank, goodWord w = true := zg_cons rfl (zg_app (by decide +kernel) (zg_app zg_j168_X12_isOf (zg_app zg_j186_X12_fillsFar (zg_app zg_j207_X12_rankOf zg_nil))))
theorem zi_j206_X12_rank : ∀ w ∈ wz_j206_X12_rank, w ∈ lw_tbl := zi_cons zw_1887 (zi_app (zi_cons zw_1755 (zi_cons zw_1757 (zi_cons zw_78 (zi_cons zw_115 (zi_cons zw_1844 (zi_cons zw_1846 (zi_cons zw_93 (zi_cons zw_1888 (zi_cons zw_1890 (zi_cons zw_98 zi_nil)))))))))) (zi_app zi_j168_X12_isOf (zi_app zi_j186_X12_fillsFar (zi_app zi_j207_X12_rankOf zi_nil))))
set_option maxHeartbeats 4000000 in
set_option maxRecDepth 100000 in
theorem j206_X12_rank (l : Launch) (D : va_G) (zt : Nat × Nat × Nat × (Nat → Nat) × (Nat → Nat)) (r : Nat → Nat) (g : Nat → ClassId) (I : Nat → Int32) (A : Nat → Nat → Int32) (L : Nat → Nat → Int64) (z1 : Int32) (z2 : Int32) (hIv : IvM I A) : GM l D zt (tyM g) yX12_rank wz_j206_X12_rank ({ frames := 7, cells := 0, slots := 0, locals := 156 } : Room) [.ref (r 0), .int z1, .int z2] (wM r g I A L) (fun v _ w' => ∃ (I' : Nat → Int32) (A' : Nat → Nat → Int32) (L' : Nat → Nat → Int64), Md [18, 19, 20] I I' ∧ Md [18, 19, 20, 21, 24] A A' ∧ IvM I' A' ∧ ∃ y0 : Int32, v = some (.int y0) ∧ w' = wM r g I' A' L') 0 0 := by
  refine GM.of (cc := cX12_rank) (maxL := 3) (ret := (some .int)) (own := RX12) (lv := [(0, .ref (r 0)), (1, .int z1), (2, .int z2)]) (by decide) rfl rfl (Nat.le_of_ble_eq_true rfl) rfl (fun κ sz hk hR hN => ?_)
  refine g_aload_n hk dX12_rank_0 rfl ?_
  refine g_iload_n hk dX12_rank_1 rfl ?_
  refine g_iload_n hk dX12_rank_2 rfl ?_
  refine g_callV (n := 2) hk (j168_X12_isOf l D zt r g I A L z1 z2 hIv) (SP.same _) (fun _ h => h) (gi_V (List.mem_cons_of_mem _ (List.mem_append_left _ (List.mem_of_getElem? (i := 0) rfl))) (List.mem_cons_of_mem _ (List.mem_append_left _ (List.mem_of_getElem? (i := 1) rfl))) (List.mem_cons_of_mem _ (List.mem_append_left _ (List.mem_of_getElem? (i := 2) rfl))) (List.mem_cons_of_mem _ (List.mem_append_left _ (List.mem_of_getElem? (i := 3) rfl))) (gi_sub (fun w h => (List.mem_cons_of_mem _ (List.mem_append_right _ (List.mem_append_left _ h)))) zg_j168_X12_isOf)) rfl rfl rfl (by decide +kernel) ⟨Nat.le_of_ble_eq_true rfl, Nat.le_of_ble_eq_true rfl⟩ 0 rfl rfl rfl rfl (Nat.le_of_ble_eq_true rfl) ⟨Nat.le_of_ble_eq_true rfl, Nat.le_of_ble_eq_true rfl⟩ dX12_rank_3 (fun v ty' w' hp hk' => ?_)
  rcases hp with ⟨rfl, rfl⟩ | ⟨c25580, c25581, c25582, c25583, c25584, c25585, c25586, c25587, c25588, rfl, rfl⟩
  · skip
    show GW κ 3 0 0 (wM r g I A L) 6 [(0, .ref (r 0)), (1, .int z1), (2, .int z2)] [.int 0]
    refine g_if_ne (tgt := 11) (a := 0) hk dX12_rank_6 (by decide) rfl (fun z9 => absurd z9 (show ¬ ((0 : Int) ≠ (0 : Int)) from by decide)) (fun _ => ?_)
    refine g_iconst (v := (-1)) hk dX12_rank_9 (by decide) ?_
    exact g_iret hk hR rfl ⟨I, A, L, (show Md [18, 19, 20] I I from Md.rf), (show Md [18, 19, 20, 21, 24] A A from Md.rf), hIv, (-1), rfl, rfl⟩ dX12_rank_10
  · skip
    have f25590 : 0 ≤ (A 11 (5 * (I 15) + z1).toNatClampNeg).toInt ∧ (A 11 (5 * (I 15) + z1).toNatClampNeg).toInt ≤ 16 := IvM_a11 hIv _
    show GW κ 3 0 0 (wM r g I A L) 6 [(0, .ref (r 0)), (1, .int z1), (2, .int z2)] [.int 1]
    refine g_if_ne (tgt := 11) (a := 1) hk dX12_rank_6 (by decide) rfl (fun _ => ?_) (fun z9 => absurd (show (1 : Int) ≠ (0 : Int) from by decide) z9)
    refine g_aload_n hk dX12_rank_11 rfl ?_
    refine g_iload_n hk dX12_rank_12 rfl ?_
    refine g_callV (n := 1) hk (j186_X12_fillsFar l D zt r g I A L z1 hIv (by omega) (by omega)) (SP.same _) (fun _ h => h) (gi_V (List.mem_cons_of_mem _ (List.mem_append_left _ (List.mem_of_getElem? (i := 4) rfl))) (List.mem_cons_of_mem _ (List.mem_append_left _ (List.mem_of_getElem? (i := 5) rfl))) (List.mem_cons_of_mem _ (List.mem_append_left _ (List.mem_of_getElem? (i := 6) rfl))) (List.mem_cons_of_mem _ (List.mem_append_left _ (List.mem_of_getElem? (i := 3) rfl))) (gi_sub (fun w h => (List.mem_cons_of_mem _ (List.mem_append_right _ (List.mem_append_right _ (List.mem_append_left _ h))))) zg_j186_X12_fillsFar)) rfl rfl rfl (by decide +kernel) ⟨Nat.le_of_ble_eq_true rfl, Nat.le_of_ble_eq_true rfl⟩ 0 rfl rfl rfl rfl (Nat.le_of_ble_eq_true rfl) ⟨Nat.le_of_ble_eq_true rfl, Nat.le_of_ble_eq_true rfl⟩ dX12_rank_13 (fun v ty' w' hp hk' => ?_)
    obtain ⟨I25592, A25592, L25592, hI25592, hA25592, hV25592, r25593, rfl, rfl⟩ := hp
    show GW κ 3 0 0 (wM r g I25592 A25592 L25592) 16 [(0, .ref (r 0)), (1, .int z1), (2, .int z2)] []
    refine g_aload_n hk dX12_rank_16 rfl ?_
    refine g_iload_n hk dX12_rank_17 rfl ?_
    refine g_callV (n := 1) hk (j207_X12_rankOf l D zt r g I25592 A25592 L25592 z2 hV25592 (by omega) (by omega)) (SP.same _) (fun _ h => h) (gi_V (List.mem_cons_of_mem _ (List.mem_append_left _ (List.mem_of_getElem? (i := 7) rfl))) (List.mem_cons_of_mem _ (List.mem_append_left _ (List.mem_of_getElem? (i := 8) rfl))) (List.mem_cons_of_mem _ (List.mem_append_left _ (List.mem_of_getElem? (i := 9) rfl))) (List.mem_cons_of_mem _ (List.mem_append_left _ (List.mem_of_getElem? (i := 3) rfl))) (gi_sub (fun w h => (List.mem_cons_of_mem _ (List.mem_append_right _ (List.mem_append_right _ (List.mem_append_right _ (List.mem_append_left _ h)))))) zg_j207_X12_rankOf)) rfl rfl rfl (by decide +kernel) ⟨Nat.le_of_ble_eq_true rfl, Nat.le_of_ble_eq_true rfl⟩ 0 rfl rfl rfl rfl (Nat.le_of_ble_eq_true rfl) ⟨Nat.le_of_ble_eq_true rfl, Nat.le_of_ble_eq_true rfl⟩ dX12_rank_18 (fun v ty' w' hp hk' => ?_)
    obtain ⟨y25698, rfl, rfl⟩ := hp
    show GW κ 3 0 0 (wM r g I25592 A25592 L25592) 21 [(0, .ref (r 0)), (1, .int z1), (2, .int z2)] [.int y25698]
    have b25699l := Int32.le_toInt y25698
    have b25699h := Int32.toInt_lt y25698
    exact g_iret hk hR rfl ⟨I25592, A25592, L25592, (show Md [18, 19, 20] I I25592 from (Md.tr Md.rf hI25592 rfl)), (show Md [18, 19, 20, 21, 24] A A25592 from (Md.tr Md.rf hA25592 rfl)), hV25592, y25698, rfl, rfl⟩ dX12_rank_21
def wo_j208_X12_kth : List Cond := [Cond.methodLink RX12 251 yX12_isQuery, Cond.instanceMethod yX12_isQuery, Cond.selects RX12 yX12_isQuery yX12_isQuery, Cond.initialized RX12, Cond.methodLink RX12 244 yX12_in, Cond.static yX12_in, Cond.methodLink RX12 357 yX12_fillsFar, Cond.instanceMethod yX12_fillsFar, Cond.selects RX12 yX12_fillsFar yX12_fillsFar, Cond.fieldLink RX12 91 "WarpDeskModel" "farBy" "[I", Cond.methodLink RX12 375 yX12_rankOf, Cond.instanceMethod yX12_rankOf, Cond.selects RX12 yX12_rankOf yX12_rankOf]
def wz_j208_X12_kth : List Cond := .code yX12_kth cX12_kth 5 (some .int) :: (wo_j208_X12_kth ++ (wsX120 ++ (wz_j147_X12_isQuery ++ (wz_j145_X12_in ++ (wz_j186_X12_fillsFar ++ (wz_j207_X12_rankOf ++ ([] : List Cond)))))))
theorem zg_j208_X12_kth : ∀ w ∈ wz_j208_X12_kth, goodWord w = true := zg_cons rfl (zg_app (by decide +kernel) (zg_app zgU_wsX120 (zg_app zg_j147_X12_isQuery (zg_app zg_j145_X12_in (zg_app zg_j186_X12_fillsFar (zg_app zg_j207_X12_rankOf zg_nil))))))
theorem zi_j208_X12_kth : ∀ w ∈ wz_j208_X12_kth, w ∈ lw_tbl := zi_cons zw_1895 (zi_app (zi_cons zw_1663 (zi_cons zw_1665 (zi_cons zw_67 (zi_cons zw_115 (zi_cons zw_1656 (zi_cons zw_1657 (zi_cons zw_1844 (zi_cons zw_1846 (zi_cons zw_93 (zi_cons zw_1426 (zi_cons zw_1888 (zi_cons zw_1890 (zi_cons zw_98 zi_nil))))))))))))) (zi_app inX12 (zi_app zi_j147_X12_isQuery (zi_app zi_j145_X12_in (zi_app zi_j186_X12_fillsFar (zi_app zi_j207_X12_rankOf zi_nil))))))
set_option maxHeartbeats 4000000 in
set_option maxRecDepth 100000 in
theorem j208_X12_kth (l : Launch) (D : va_G) (zt : Nat × Nat × Nat × (Nat → Nat) × (Nat → Nat)) (r : Nat → Nat) (g : Nat → ClassId) (I : Nat → Int32) (A : Nat → Nat → Int32) (L : Nat → Nat → Int64) (z1 : Int32) (z2 : Int32) (z3 : Int32) (hIv : IvM I A) : GM l D zt (tyM g) yX12_kth wz_j208_X12_kth ({ frames := 7, cells := 0, slots := 0, locals := 156 } : Room) [.ref (r 0), .int z1, .int z2, .int z3] (wM r g I A L) (fun v _ w' => ∃ (I' : Nat → Int32) (A' : Nat → Nat → Int32) (L' : Nat → Nat → Int64), Md [18, 19, 20] I I' ∧ Md [18, 19, 20, 21, 24] A A' ∧ IvM I' A' ∧ ∃ y0 : Int32, ((-2) ≤ y0.toInt) ∧ v = some (.int y0) ∧ w' = wM r g I' A' L') 0 0 := by
  refine GM.of (cc := cX12_kth) (maxL := 5) (ret := (some .int)) (own := RX12) (lv := [(0, .ref (r 0)), (1, .int z1), (2, .int z2), (3, .int z3)]) (by decide) rfl rfl (Nat.le_of_ble_eq_true rfl) rfl (fun κ sz hk hR hN => ?_)
  have hin12 : ∀ w ∈ u_ws RX12 TX12 55, w ∈ wz_j208_X12_kth := fun w h => (List.mem_cons_of_mem _ (List.mem_append_right _ (List.mem_append_left _ h)))
  refine g_aload_n hk dX12_kth_0 rfl ?_
  refine g_iload_n hk dX12_kth_1 rfl ?_
  refine g_callV (n := 1) hk (j147_X12_isQuery l D zt r g I A L z1 hIv) (SP.same _) (fun _ h => h) (gi_V (List.mem_cons_of_mem _ (List.mem_append_left _ (List.mem_of_getElem? (i := 0) rfl))) (List.mem_cons_of_mem _ (List.mem_append_left _ (List.mem_of_getElem? (i := 1) rfl))) (List.mem_cons_of_mem _ (List.mem_append_left _ (List.mem_of_getElem? (i := 2) rfl))) (List.mem_cons_of_mem _ (List.mem_append_left _ (List.mem_of_getElem? (i := 3) rfl))) (gi_sub (fun w h => (List.mem_cons_of_mem _ (List.mem_append_right _ (List.mem_append_right _ (List.mem_append_left _ h))))) zg_j147_X12_isQuery)) rfl rfl rfl (by decide +kernel) ⟨Nat.le_of_ble_eq_true rfl, Nat.le_of_ble_eq_true rfl⟩ 0 rfl rfl rfl rfl (Nat.le_of_ble_eq_true rfl) ⟨Nat.le_of_ble_eq_true rfl, Nat.le_of_ble_eq_true rfl⟩ dX12_kth_2 (fun v ty' w' hp hk' => ?_)
  rcases hp with ⟨rfl, rfl⟩ | ⟨c25701, c25702, c25703, c25704, rfl, rfl⟩
  · skip
    show GW κ 5 0 0 (wM r g I A L) 5 [(0, .ref (r 0)), (1, .int z1), (2, .int z2), (3, .int z3)] [.int 0]
    refine g_if_eq (tgt := 21) (a := 0) hk dX12_kth_5 (by decide) rfl (fun _ => ?_) (fun z9 => absurd (show (0 : Int) = (0 : Int) from by decide) z9)
    refine g_iconst (v := (-1)) hk dX12_kth_21 (by decide) ?_
    exact g_iret hk hR rfl ⟨I, A, L, (show Md [18, 19, 20] I I from Md.rf), (show Md [18, 19, 20, 21, 24] A A from Md.rf), hIv, (-1), (by decide), rfl, rfl⟩ dX12_kth_22
  · skip
    have f25706 : 0 ≤ (A 11 (5 * (I 15) + z1).toNatClampNeg).toInt ∧ (A 11 (5 * (I 15) + z1).toNatClampNeg).toInt ≤ 16 := IvM_a11 hIv _
    show GW κ 5 0 0 (wM r g I A L) 5 [(0, .ref (r 0)), (1, .int z1), (2, .int z2), (3, .int z3)] [.int 1]
    refine g_if_eq (tgt := 21) (a := 1) hk dX12_kth_5 (by decide) rfl (fun z9 => absurd z9 (show ¬ ((1 : Int) = (0 : Int)) from by decide)) (fun _ => ?_)
    refine g_iload_n hk dX12_kth_8 rfl ?_
    have b25707l := Int32.le_toInt z2
    have b25707h := Int32.toInt_lt z2
    refine g_if_lt (tgt := 21) (a := z2.toInt) hk dX12_kth_9 (by decide) rfl (fun c25708 => ?_) (fun c25708 => ?_)
    · skip
      refine g_iconst (v := (-1)) hk dX12_kth_21 (by decide) ?_
      exact g_iret hk hR rfl ⟨I, A, L, (show Md [18, 19, 20] I I from Md.rf), (show Md [18, 19, 20, 21, 24] A A from Md.rf), hIv, (-1), (by decide), rfl, rfl⟩ dX12_kth_22
    · skip
      refine g_iload_n hk dX12_kth_12 rfl ?_
      refine g_iconst (v := 0) hk dX12_kth_13 (by decide) ?_
      refine g_iconst (v := 1) hk dX12_kth_14 (by decide) ?_
      have k25709 : (0 : Int32).toInt = 0 := rfl
      have k25710 : (1 : Int32).toInt = 1 := rfl
      refine g_callS (n := 3) hk (j145_X12_in l D zt r g I A L z3 0 1 hIv) (SP.same _) (fun _ h => h) (gi_S (List.mem_cons_of_mem _ (List.mem_append_left _ (List.mem_of_getElem? (i := 4) rfl))) (List.mem_cons_of_mem _ (List.mem_append_left _ (List.mem_of_getElem? (i := 5) rfl))) (List.mem_cons_of_mem _ (List.mem_append_left _ (List.mem_of_getElem? (i := 3) rfl))) (gi_sub (fun w h => (List.mem_cons_of_mem _ (List.mem_append_right _ (List.mem_append_right _ (List.mem_append_right _ (List.mem_append_left _ h)))))) zg_j145_X12_in)) rfl rfl rfl (by decide +kernel) ⟨Nat.le_of_ble_eq_true rfl, Nat.le_of_ble_eq_true rfl⟩ rfl rfl (Nat.le_of_ble_eq_true rfl) ⟨Nat.le_of_ble_eq_true rfl, Nat.le_of_ble_eq_true rfl⟩ dX12_kth_15 (fun v ty' w' hp hk' => ?_)
      rcases hp with ⟨c25711, rfl, rfl⟩ | ⟨c25713, c25714, rfl, rfl⟩
      · skip
        have b25716l := Int32.le_toInt z3
        have b25716h := Int32.toInt_lt z3
        show GW κ 5 0 0 (wM r g I A L) 18 [(0, .ref (r 0)), (1, .int z1), (2, .int z2), (3, .int z3)] [.int 0]
        refine g_if_ne (tgt := 23) (a := 0) hk dX12_kth_18 (by decide) rfl (fun z9 => absurd z9 (show ¬ ((0 : Int) ≠ (0 : Int)) from by decide)) (fun _ => ?_)
        refine g_iconst (v := (-1)) hk dX12_kth_21 (by decide) ?_
        exact g_iret hk hR rfl ⟨I, A, L, (show Md [18, 19, 20] I I from Md.rf), (show Md [18, 19, 20, 21, 24] A A from Md.rf), hIv, (-1), (by decide), rfl, rfl⟩ dX12_kth_22
      · skip
        show GW κ 5 0 0 (wM r g I A L) 18 [(0, .ref (r 0)), (1, .int z1), (2, .int z2), (3, .int z3)] [.int 1]
        refine g_if_ne (tgt := 23) (a := 1) hk dX12_kth_18 (by decide) rfl (fun _ => ?_) (fun z9 => absurd (show (1 : Int) ≠ (0 : Int) from by decide) z9)
        refine g_aload_n hk dX12_kth_23 rfl ?_
        refine g_iload_n hk dX12_kth_24 rfl ?_
        refine g_callV (n := 1) hk (j186_X12_fillsFar l D zt r g I A L z1 hIv (by omega) (by omega)) (SP.same _) (fun _ h => h) (gi_V (List.mem_cons_of_mem _ (List.mem_append_left _ (List.mem_of_getElem? (i := 6) rfl))) (List.mem_cons_of_mem _ (List.mem_append_left _ (List.mem_of_getElem? (i := 7) rfl))) (List.mem_cons_of_mem _ (List.mem_append_left _ (List.mem_of_getElem? (i := 8) rfl))) (List.mem_cons_of_mem _ (List.mem_append_left _ (List.mem_of_getElem? (i := 3) rfl))) (gi_sub (fun w h => (List.mem_cons_of_mem _ (List.mem_append_right _ (List.mem_append_right _ (List.mem_append_right _ (List.mem_append_right _ (List.mem_append_left _ h))))))) zg_j186_X12_fillsFar)) rfl rfl rfl (by decide +kernel) ⟨Nat.le_of_ble_eq_true rfl, Nat.le_of_ble_eq_true rfl⟩ 0 rfl rfl rfl rfl (Nat.le_of_ble_eq_true rfl) ⟨Nat.le_of_ble_eq_true rfl, Nat.le_of_ble_eq_true rfl⟩ dX12_kth_25 (fun v ty' w' hp hk' => ?_)
        obtain ⟨I25718, A25718, L25718, hI25718, hA25718, hV25718, r25719, rfl, rfl⟩ := hp
        show GW κ 5 0 0 (wM r g I25718 A25718 L25718) 28 [(0, .ref (r 0)), (1, .int z1), (2, .int z2), (3, .int z3)] []
        refine g_iconst (v := 0) hk dX12_kth_28 (by decide) ?_
        refine g_istore (lv' := [(4, .int 0), (0, .ref (r 0)), (1, .int z1), (2, .int z2), (3, .int z3)]) hk dX12_kth_29 (by decide) rfl ?_
        have lp25761 : ∀ (n25762 : Nat) (x25720 : Int32), (0 ≤ x25720.toInt) → (x25720.toInt ≤ 160) → (161 - x25720.toInt < (n25762 : Int)) → (0 < n25762) → GW κ 5 0 0 (wM r g I25718 A25718 L25718) 31 [(4, .int x25720), (0, .ref (r 0)), (1, .int z1), (2, .int z2), (3, .int z3)] [] := by
          intro n25762
          induction n25762 with
          | zero =>
            intro x25720 h25759 h25760 m25763 m25763z
            exact absurd m25763z (Nat.lt_irrefl 0)
          | succ n25762 ih25764 =>
            intro x25720 h25759 h25760 m25763 m25763z
            refine g_iload hk dX12_kth_31 rfl ?_
            refine g_sipush (v := 160) hk dX12_kth_33 (by decide) ?_
            refine g_icmp_ge (tgt := 82) (a := x25720.toInt) (b := 160) hk dX12_kth_36 (by decide) rfl rfl (fun c25765 => ?_) (fun c25765 => ?_)
            · skip
              refine g_bipush (v := (-2)) hk dX12_kth_82 (by decide) ?_
              exact g_iret hk hR rfl ⟨I25718, A25718, L25718, (show Md [18, 19, 20] I I25718 from (Md.tr Md.rf hI25718 rfl)), (show Md [18, 19, 20, 21, 24] A A25718 from (Md.tr Md.rf hA25718 rfl)), hV25718, (-2), (by decide), rfl, rfl⟩ dX12_kth_84
            · skip
              refine g_aload_n hk dX12_kth_39 rfl ?_
              refine gM_r0_48 hk hin12 (List.mem_cons_of_mem _ (List.mem_append_left _ (List.mem_of_getElem? (i := 9) rfl))) dX12_kth_40 ?_
              refine g_iload hk dX12_kth_43 rfl ?_
              refine lM_24 (v := (A25718 24 x25720.toNatClampNeg)) hk (vp_in_iff.mpr ⟨by omega, by omega⟩) rfl dX12_kth_45 ?_
              have b25766l := Int32.le_toInt (A25718 24 x25720.toNatClampNeg)
              have b25766h := Int32.toInt_lt (A25718 24 x25720.toNatClampNeg)
              refine g_if_lt (tgt := 76) (a := (A25718 24 x25720.toNatClampNeg).toInt) hk dX12_kth_46 (by decide) rfl (fun c25767 => ?_) (fun c25767 => ?_)
              · skip
                obtain ⟨y25768, ey25768⟩ : ∃ y : Int32, y = x25720 + Int32.ofInt 1 := ⟨_, rfl⟩
                have hy25768 : y25768.toInt = x25720.toInt + 1 := i32_add ey25768 rfl (by decide) (by omega) (by omega)
                refine g_iinc (v := y25768) (lv' := [(4, .int y25768), (0, .ref (r 0)), (1, .int z1), (2, .int z2), (3, .int z3)]) hk 0 dX12_kth_76 rfl ey25768.symm (by decide) rfl ?_
                refine g_goto (tgt := 31) hk dX12_kth_79 (by decide) ?_
                exact g_lv (List.forall_mem_cons.mpr ⟨List.mem_of_getElem? (i := 0) rfl, (List.forall_mem_cons.mpr ⟨List.mem_of_getElem? (i := 1) rfl, (List.forall_mem_cons.mpr ⟨List.mem_of_getElem? (i := 2) rfl, (List.forall_mem_cons.mpr ⟨List.mem_of_getElem? (i := 3) rfl, (List.forall_mem_cons.mpr ⟨List.mem_of_getElem? (i := 4) rfl, (fun _ h => absurd h List.not_mem_nil)⟩)⟩)⟩)⟩)⟩) (ih25764 y25768 (by omega) (by omega) (by omega) (by omega))
              · skip
                refine g_aload_n hk dX12_kth_49 rfl ?_
                refine g_iload hk dX12_kth_50 rfl ?_
                refine g_callV (n := 1) hk (j207_X12_rankOf l D zt r g I25718 A25718 L25718 x25720 hV25718 (by omega) (by omega)) (SP.same _) (fun _ h => h) (gi_V (List.mem_cons_of_mem _ (List.mem_append_left _ (List.mem_of_getElem? (i := 10) rfl))) (List.mem_cons_of_mem _ (List.mem_append_left _ (List.mem_of_getElem? (i := 11) rfl))) (List.mem_cons_of_mem _ (List.mem_append_left _ (List.mem_of_getElem? (i := 12) rfl))) (List.mem_cons_of_mem _ (List.mem_append_left _ (List.mem_of_getElem? (i := 3) rfl))) (gi_sub (fun w h => (List.mem_cons_of_mem _ (List.mem_append_right _ (List.mem_append_right _ (List.mem_append_right _ (List.mem_append_right _ (List.mem_append_right _ (List.mem_append_left _ h)))))))) zg_j207_X12_rankOf)) rfl rfl rfl (by decide +kernel) ⟨Nat.le_of_ble_eq_true rfl, Nat.le_of_ble_eq_true rfl⟩ 0 rfl rfl rfl rfl (Nat.le_of_ble_eq_true rfl) ⟨Nat.le_of_ble_eq_true rfl, Nat.le_of_ble_eq_true rfl⟩ dX12_kth_52 (fun v ty' w' hp hk' => ?_)
                obtain ⟨y25769, rfl, rfl⟩ := hp
                show GW κ 5 0 0 (wM r g I25718 A25718 L25718) 55 [(4, .int x25720), (0, .ref (r 0)), (1, .int z1), (2, .int z2), (3, .int z3)] [.int y25769]
                refine g_iload_n hk dX12_kth_55 rfl ?_
                have b25770l := Int32.le_toInt y25769
                have b25770h := Int32.toInt_lt y25769
                refine g_icmp_ne (tgt := 76) (a := y25769.toInt) (b := z2.toInt) hk dX12_kth_56 (by decide) rfl rfl (fun c25771 => ?_) (fun c25771 => ?_)
                · skip
                  obtain ⟨y25772, ey25772⟩ : ∃ y : Int32, y = x25720 + Int32.ofInt 1 := ⟨_, rfl⟩
                  have hy25772 : y25772.toInt = x25720.toInt + 1 := i32_add ey25772 rfl (by decide) (by omega) (by omega)
                  refine g_iinc (v := y25772) (lv' := [(4, .int y25772), (0, .ref (r 0)), (1, .int z1), (2, .int z2), (3, .int z3)]) hk 0 dX12_kth_76 rfl ey25772.symm (by decide) rfl ?_
                  refine g_goto (tgt := 31) hk dX12_kth_79 (by decide) ?_
                  exact g_lv (List.forall_mem_cons.mpr ⟨List.mem_of_getElem? (i := 0) rfl, (List.forall_mem_cons.mpr ⟨List.mem_of_getElem? (i := 1) rfl, (List.forall_mem_cons.mpr ⟨List.mem_of_getElem? (i := 2) rfl, (List.forall_mem_cons.mpr ⟨List.mem_of_getElem? (i := 3) rfl, (List.forall_mem_cons.mpr ⟨List.mem_of_getElem? (i := 4) rfl, (fun _ h => absurd h List.not_mem_nil)⟩)⟩)⟩)⟩)⟩) (ih25764 y25772 (by omega) (by omega) (by omega) (by omega))
                · skip
                  refine g_iload_n hk dX12_kth_59 rfl ?_
                  refine g_if_ne (tgt := 68) (a := z3.toInt) hk dX12_kth_60 (by decide) rfl (fun c25773 => ?_) (fun c25773 => ?_)
                  · skip
                    refine g_aload_n hk dX12_kth_68 rfl ?_
                    refine gM_r0_48 hk hin12 (List.mem_cons_of_mem _ (List.mem_append_left _ (List.mem_of_getElem? (i := 9) rfl))) dX12_kth_69 ?_
                    refine g_iload hk dX12_kth_72 rfl ?_
                    refine lM_24 (v := (A25718 24 x25720.toNatClampNeg)) hk (vp_in_iff.mpr ⟨by omega, by omega⟩) rfl dX12_kth_74 ?_
                    exact g_iret hk hR rfl ⟨I25718, A25718, L25718, (show Md [18, 19, 20] I I25718 from (Md.tr Md.rf hI25718 rfl)), (show Md [18, 19, 20, 21, 24] A A25718 from (Md.tr Md.rf hA25718 rfl)), hV25718, (A25718 24 x25720.toNatClampNeg), (by omega), rfl, rfl⟩ dX12_kth_75
                  · skip
                    refine g_iload hk dX12_kth_63 rfl ?_
                    refine g_goto (tgt := 75) hk dX12_kth_65 (by decide) ?_
                    exact g_iret hk hR rfl ⟨I25718, A25718, L25718, (show Md [18, 19, 20] I I25718 from (Md.tr Md.rf hI25718 rfl)), (show Md [18, 19, 20, 21, 24] A A25718 from (Md.tr Md.rf hA25718 rfl)), hV25718, x25720, (by omega), rfl, rfl⟩ dX12_kth_75
        obtain ⟨n25774, n25774a, n25774b⟩ : ∃ n : Nat, 161 - (0 : Int32).toInt < (n : Int) ∧ 0 < n := ⟨((161 - (0 : Int32).toInt : Int)).toNat + 1, by omega, by omega⟩
        exact lp25761 n25774 0 (by omega) (by omega) n25774a n25774b
def wo_j210_X12_greater : List Cond := []
def wz_j210_X12_greater : List Cond := .code yX12_greater cX12_greater 2 (some .int) :: (wo_j210_X12_greater ++ ([] : List Cond))
theorem zg_j210_X12_greater : ∀ w ∈ wz_j210_X12_greater, goodWord w = true := zg_cons rfl (zg_app (by decide +kernel) zg_nil)
theorem zi_j210_X12_greater : ∀ w ∈ wz_j210_X12_greater, w ∈ lw_tbl := zi_cons zw_1902 (zi_app zi_nil zi_nil)
set_option maxHeartbeats 4000000 in
set_option maxRecDepth 100000 in
theorem j210_X12_greater (l : Launch) (D : va_G) (zt : Nat × Nat × Nat × (Nat → Nat) × (Nat → Nat)) (r : Nat → Nat) (g : Nat → ClassId) (I : Nat → Int32) (A : Nat → Nat → Int32) (L : Nat → Nat → Int64) (z0 : Int32) (z1 : Int32) (hIv : IvM I A) : GM l D zt (tyM g) yX12_greater wz_j210_X12_greater ({ frames := 0, cells := 0, slots := 0, locals := 0 } : Room) [.int z0, .int z1] (wM r g I A L) (fun v _ w' => ∃ y0 : Int32, v = some (.int y0) ∧ w' = wM r g I A L) 0 0 := by
  refine GM.of (cc := cX12_greater) (maxL := 2) (ret := (some .int)) (own := RX12) (lv := [(0, .int z0), (1, .int z1)]) (by decide) rfl rfl (Nat.le_of_ble_eq_true rfl) rfl (fun κ sz hk hR hN => ?_)
  refine g_iload_n hk dX12_greater_0 rfl ?_
  refine g_iload_n hk dX12_greater_1 rfl ?_
  have b25813l := Int32.le_toInt z0
  have b25813h := Int32.toInt_lt z0
  have b25814l := Int32.le_toInt z1
  have b25814h := Int32.toInt_lt z1
  refine g_icmp_le (tgt := 9) (a := z0.toInt) (b := z1.toInt) hk dX12_greater_2 (by decide) rfl rfl (fun c25815 => ?_) (fun c25815 => ?_)
  · skip
    refine g_iload_n hk dX12_greater_9 rfl ?_
    exact g_iret hk hR rfl ⟨z1, rfl, rfl⟩ dX12_greater_10
  · skip
    refine g_iload_n hk dX12_greater_5 rfl ?_
    refine g_goto (tgt := 10) hk dX12_greater_6 (by decide) ?_
    exact g_iret hk hR rfl ⟨z0, rfl, rfl⟩ dX12_greater_10
def wo_j209_X12_slack : List Cond := [Cond.methodLink RX12 251 yX12_isQuery, Cond.instanceMethod yX12_isQuery, Cond.selects RX12 yX12_isQuery yX12_isQuery, Cond.initialized RX12, Cond.methodLink RX12 323 yX12_copies, Cond.instanceMethod yX12_copies, Cond.selects RX12 yX12_copies yX12_copies, Cond.methodLink RX12 342 yX12_isOf, Cond.instanceMethod yX12_isOf, Cond.selects RX12 yX12_isOf yX12_isOf, Cond.methodLink RX12 345 yX12_distanceOf, Cond.instanceMethod yX12_distanceOf, Cond.selects RX12 yX12_distanceOf yX12_distanceOf, Cond.methodLink RX12 314 yX12_endsOf, Cond.instanceMethod yX12_endsOf, Cond.selects RX12 yX12_endsOf yX12_endsOf, Cond.methodLink RX12 308 yX12_overOf, Cond.instanceMethod yX12_overOf, Cond.selects RX12 yX12_overOf yX12_overOf, Cond.methodLink RX12 317 yX12_backOf, Cond.instanceMethod yX12_backOf, Cond.selects RX12 yX12_backOf yX12_backOf, Cond.methodLink RX12 378 yX12_greater, Cond.static yX12_greater]
def wz_j209_X12_slack : List Cond := .code yX12_slack cX12_slack 5 (some .int) :: (wo_j209_X12_slack ++ (wz_j147_X12_isQuery ++ (wz_j151_X12_copies ++ (wz_j168_X12_isOf ++ (wz_j169_X12_distanceOf ++ (wz_j182_X12_endsOf ++ (wz_j181_X12_overOf ++ (wz_j180_X12_backOf ++ (wz_j210_X12_greater ++ ([] : List Cond))))))))))
theorem zg_j209_X12_slack : ∀ w ∈ wz_j209_X12_slack, goodWord w = true := zg_cons rfl (zg_app (by decide +kernel) (zg_app zg_j147_X12_isQuery (zg_app zg_j151_X12_copies (zg_app zg_j168_X12_isOf (zg_app zg_j169_X12_distanceOf (zg_app zg_j182_X12_endsOf (zg_app zg_j181_X12_overOf (zg_app zg_j180_X12_backOf (zg_app zg_j210_X12_greater zg_nil)))))))))
theorem zi_j209_X12_slack : ∀ w ∈ wz_j209_X12_slack, w ∈ lw_tbl := zi_cons zw_1899 (zi_app (zi_cons zw_1663 (zi_cons zw_1665 (zi_cons zw_67 (zi_cons zw_115 (zi_cons zw_1679 (zi_cons zw_1681 (zi_cons zw_70 (zi_cons zw_1755 (zi_cons zw_1757 (zi_cons zw_78 (zi_cons zw_1759 (zi_cons zw_1761 (zi_cons zw_79 (zi_cons zw_1803 (zi_cons zw_1805 (zi_cons zw_88 (zi_cons zw_1807 (zi_cons zw_1809 (zi_cons zw_89 (zi_cons zw_1812 (zi_cons zw_1814 (zi_cons zw_90 (zi_cons zw_1900 (zi_cons zw_1901 zi_nil)))))))))))))))))))))))) (zi_app zi_j147_X12_isQuery (zi_app zi_j151_X12_copies (zi_app zi_j168_X12_isOf (zi_app zi_j169_X12_distanceOf (zi_app zi_j182_X12_endsOf (zi_app zi_j181_X12_overOf (zi_app zi_j180_X12_backOf (zi_app zi_j210_X12_greater zi_nil)))))))))
set_option maxHeartbeats 4000000 in
set_option maxRecDepth 100000 in
theorem j209_X12_slack (l : Launch) (D : va_G) (zt : Nat × Nat × Nat × (Nat → Nat) × (Nat → Nat)) (r : Nat → Nat) (g : Nat → ClassId) (I : Nat → Int32) (A : Nat → Nat → Int32) (L : Nat → Nat → Int64) (z1 : Int32) (hIv : IvM I A) : GM l D zt (tyM g) yX12_slack wz_j209_X12_slack ({ frames := 6, cells := 0, slots := 0, locals := 134 } : Room) [.ref (r 0), .int z1] (wM r g I A L) (fun v _ w' => ∃ (I' : Nat → Int32) (A' : Nat → Nat → Int32) (L' : Nat → Nat → Int64), Md [18, 19, 20] I I' ∧ Md [18, 19, 20, 21] A A' ∧ IvM I' A' ∧ ∃ y0 : Int32, v = some (.int y0) ∧ w' = wM r g I' A' L') 0 0 := by
  refine GM.of (cc := cX12_slack) (maxL := 5) (ret := (some .int)) (own := RX12) (lv := [(0, .ref (r 0)), (1, .int z1)]) (by decide) rfl rfl (Nat.le_of_ble_eq_true rfl) rfl (fun κ sz hk hR hN => ?_)
  refine g_aload_n hk dX12_slack_0 rfl ?_
  refine g_iload_n hk dX12_slack_1 rfl ?_
  refine g_callV (n := 1) hk (j147_X12_isQuery l D zt r g I A L z1 hIv) (SP.same _) (fun _ h => h) (gi_V (List.mem_cons_of_mem _ (List.mem_append_left _ (List.mem_of_getElem? (i := 0) rfl))) (List.mem_cons_of_mem _ (List.mem_append_left _ (List.mem_of_getElem? (i := 1) rfl))) (List.mem_cons_of_mem _ (List.mem_append_left _ (List.mem_of_getElem? (i := 2) rfl))) (List.mem_cons_of_mem _ (List.mem_append_left _ (List.mem_of_getElem? (i := 3) rfl))) (gi_sub (fun w h => (List.mem_cons_of_mem _ (List.mem_append_right _ (List.mem_append_left _ h)))) zg_j147_X12_isQuery)) rfl rfl rfl (by decide +kernel) ⟨Nat.le_of_ble_eq_true rfl, Nat.le_of_ble_eq_true rfl⟩ 0 rfl rfl rfl rfl (Nat.le_of_ble_eq_true rfl) ⟨Nat.le_of_ble_eq_true rfl, Nat.le_of_ble_eq_true rfl⟩ dX12_slack_2 (fun v ty' w' hp hk' => ?_)
  rcases hp with ⟨rfl, rfl⟩ | ⟨c25776, c25777, c25778, c25779, rfl, rfl⟩
  · skip
    show GW κ 5 0 0 (wM r g I A L) 5 [(0, .ref (r 0)), (1, .int z1)] [.int 0]
    refine g_if_ne (tgt := 10) (a := 0) hk dX12_slack_5 (by decide) rfl (fun z9 => absurd z9 (show ¬ ((0 : Int) ≠ (0 : Int)) from by decide)) (fun _ => ?_)
    refine g_iconst (v := (-1)) hk dX12_slack_8 (by decide) ?_
    exact g_iret hk hR rfl ⟨I, A, L, (show Md [18, 19, 20] I I from Md.rf), (show Md [18, 19, 20, 21] A A from Md.rf), hIv, (-1), rfl, rfl⟩ dX12_slack_9
  · skip
    have f25781 : 0 ≤ (A 11 (5 * (I 15) + z1).toNatClampNeg).toInt ∧ (A 11 (5 * (I 15) + z1).toNatClampNeg).toInt ≤ 16 := IvM_a11 hIv _
    show GW κ 5 0 0 (wM r g I A L) 5 [(0, .ref (r 0)), (1, .int z1)] [.int 1]
    refine g_if_ne (tgt := 10) (a := 1) hk dX12_slack_5 (by decide) rfl (fun _ => ?_) (fun z9 => absurd (show (1 : Int) ≠ (0 : Int) from by decide) z9)
    refine g_aload_n hk dX12_slack_10 rfl ?_
    refine g_callV (n := 0) hk (j151_X12_copies l D zt r g I A L  hIv) (SP.same _) (fun _ h => h) (gi_V (List.mem_cons_of_mem _ (List.mem_append_left _ (List.mem_of_getElem? (i := 4) rfl))) (List.mem_cons_of_mem _ (List.mem_append_left _ (List.mem_of_getElem? (i := 5) rfl))) (List.mem_cons_of_mem _ (List.mem_append_left _ (List.mem_of_getElem? (i := 6) rfl))) (List.mem_cons_of_mem _ (List.mem_append_left _ (List.mem_of_getElem? (i := 3) rfl))) (gi_sub (fun w h => (List.mem_cons_of_mem _ (List.mem_append_right _ (List.mem_append_right _ (List.mem_append_left _ h))))) zg_j151_X12_copies)) rfl rfl rfl (by decide +kernel) ⟨Nat.le_of_ble_eq_true rfl, Nat.le_of_ble_eq_true rfl⟩ 0 rfl rfl rfl rfl (Nat.le_of_ble_eq_true rfl) ⟨Nat.le_of_ble_eq_true rfl, Nat.le_of_ble_eq_true rfl⟩ dX12_slack_11 (fun v ty' w' hp hk' => ?_)
    obtain ⟨I25783, A25783, L25783, hI25783, hA25783, hV25783, r25784, r25785, rfl, rfl⟩ := hp
    have f25786 := IvM_s17_0 hIv
    have f25787 := IvM_s17_164 hIv
    show GW κ 5 0 0 (wM r g I25783 A25783 L25783) 14 [(0, .ref (r 0)), (1, .int z1)] []
    refine g_iconst (v := 0) hk dX12_slack_14 (by decide) ?_
    refine g_istore_n (lv' := [(2, .int 0), (0, .ref (r 0)), (1, .int z1)]) hk dX12_slack_15 (by decide) rfl ?_
    refine g_iconst (v := 0) hk dX12_slack_16 (by decide) ?_
    refine g_istore_n (lv' := [(3, .int 0), (2, .int 0), (0, .ref (r 0)), (1, .int z1)]) hk dX12_slack_17 (by decide) rfl ?_
    have lp25915 : ∀ (n25916 : Nat) (x25788 : Int32) (x25789 : Int32) (I25792 : Nat → Int32) (A25792 : Nat → Nat → Int32) (L25792 : Nat → Nat → Int64), (Md [18, 19, 20] I25783 I25792) → (Md [19, 20, 21] A25783 A25792) → (IvM I25792 A25792) → (0 ≤ x25788.toInt) → (x25788.toInt ≤ 160) → (161 - x25788.toInt < (n25916 : Int)) → (0 < n25916) → GW κ 5 0 0 (wM r g I25792 A25792 L25792) 18 [(3, .int x25788), (2, .int x25789), (0, .ref (r 0)), (1, .int z1)] [] := by
      intro n25916
      induction n25916 with
      | zero =>
        intro x25788 x25789 I25792 A25792 L25792 hI25792 hA25792 hV25792 h25913 h25914 m25917 m25917z
        exact absurd m25917z (Nat.lt_irrefl 0)
      | succ n25916 ih25918 =>
        intro x25788 x25789 I25792 A25792 L25792 hI25792 hA25792 hV25792 h25913 h25914 m25917 m25917z
        refine g_iload_n hk dX12_slack_18 rfl ?_
        refine g_sipush (v := 160) hk dX12_slack_19 (by decide) ?_
        refine g_icmp_ge (tgt := 75) (a := x25788.toInt) (b := 160) hk dX12_slack_22 (by decide) rfl rfl (fun c25919 => ?_) (fun c25919 => ?_)
        · skip
          refine g_iload_n hk dX12_slack_75 rfl ?_
          have b25920l := Int32.le_toInt x25789
          have b25920h := Int32.toInt_lt x25789
          exact g_iret hk hR rfl ⟨I25792, A25792, L25792, (show Md [18, 19, 20] I I25792 from (Md.tr (Md.tr Md.rf hI25783 rfl) hI25792 rfl)), (show Md [18, 19, 20, 21] A A25792 from (Md.tr (Md.tr Md.rf hA25783 rfl) hA25792 rfl)), hV25792, x25789, rfl, rfl⟩ dX12_slack_76
        · skip
          refine g_aload_n hk dX12_slack_25 rfl ?_
          refine g_iload_n hk dX12_slack_26 rfl ?_
          refine g_iload_n hk dX12_slack_27 rfl ?_
          refine g_callV (n := 2) hk (j168_X12_isOf l D zt r g I25792 A25792 L25792 z1 x25788 hV25792) (SP.same _) (fun _ h => h) (gi_V (List.mem_cons_of_mem _ (List.mem_append_left _ (List.mem_of_getElem? (i := 7) rfl))) (List.mem_cons_of_mem _ (List.mem_append_left _ (List.mem_of_getElem? (i := 8) rfl))) (List.mem_cons_of_mem _ (List.mem_append_left _ (List.mem_of_getElem? (i := 9) rfl))) (List.mem_cons_of_mem _ (List.mem_append_left _ (List.mem_of_getElem? (i := 3) rfl))) (gi_sub (fun w h => (List.mem_cons_of_mem _ (List.mem_append_right _ (List.mem_append_right _ (List.mem_append_right _ (List.mem_append_left _ h)))))) zg_j168_X12_isOf)) rfl rfl rfl (by decide +kernel) ⟨Nat.le_of_ble_eq_true rfl, Nat.le_of_ble_eq_true rfl⟩ 0 rfl rfl rfl rfl (Nat.le_of_ble_eq_true rfl) ⟨Nat.le_of_ble_eq_true rfl, Nat.le_of_ble_eq_true rfl⟩ dX12_slack_28 (fun v ty' w' hp hk' => ?_)
          rcases hp with ⟨rfl, rfl⟩ | ⟨c25922, c25923, c25924, c25925, c25926, c25927, c25928, c25929, c25930, rfl, rfl⟩
          · skip
            show GW κ 5 0 0 (wM r g I25792 A25792 L25792) 31 [(3, .int x25788), (2, .int x25789), (0, .ref (r 0)), (1, .int z1)] [.int 0]
            refine g_if_ne (tgt := 37) (a := 0) hk dX12_slack_31 (by decide) rfl (fun z9 => absurd z9 (show ¬ ((0 : Int) ≠ (0 : Int)) from by decide)) (fun _ => ?_)
            refine g_goto (tgt := 69) hk dX12_slack_34 (by decide) ?_
            obtain ⟨y25932, ey25932⟩ : ∃ y : Int32, y = x25788 + Int32.ofInt 1 := ⟨_, rfl⟩
            have hy25932 : y25932.toInt = x25788.toInt + 1 := i32_add ey25932 rfl (by decide) (by omega) (by omega)
            refine g_iinc (v := y25932) (lv' := [(3, .int y25932), (2, .int x25789), (0, .ref (r 0)), (1, .int z1)]) hk 0 dX12_slack_69 rfl ey25932.symm (by decide) rfl ?_
            refine g_goto (tgt := 18) hk dX12_slack_72 (by decide) ?_
            have b25933l := Int32.le_toInt x25789
            have b25933h := Int32.toInt_lt x25789
            exact g_lv (List.forall_mem_cons.mpr ⟨List.mem_of_getElem? (i := 0) rfl, (List.forall_mem_cons.mpr ⟨List.mem_of_getElem? (i := 1) rfl, (List.forall_mem_cons.mpr ⟨List.mem_of_getElem? (i := 2) rfl, (List.forall_mem_cons.mpr ⟨List.mem_of_getElem? (i := 3) rfl, (fun _ h => absurd h List.not_mem_nil)⟩)⟩)⟩)⟩) (ih25918 y25932 x25789 I25792 A25792 L25792 (show Md [18, 19, 20] I25783 I25792 from Md.tr hI25792 (show Md [18, 19, 20] I25792 I25792 from Md.rf) rfl) (show Md [19, 20, 21] A25783 A25792 from Md.tr hA25792 (show Md [19, 20, 21] A25792 A25792 from Md.rf) rfl) hV25792 (by omega) (by omega) (by omega) (by omega))
          · skip
            rw [show (A25792 11 (5 * (I25792 15) + z1).toNatClampNeg) = (A 11 (5 * (I 15) + z1).toNatClampNeg) from (by rw [show I25792 15 = (I 15) from ((hI25792 15 rfl).trans (hI25783 15 rfl))]; exact ((congrFun (hA25792 11 rfl) _).trans (congrFun (hA25783 11 rfl) _)))] at c25929
            rw [show (A25792 11 (5 * (I25792 15) + z1).toNatClampNeg) = (A 11 (5 * (I 15) + z1).toNatClampNeg) from (by rw [show I25792 15 = (I 15) from ((hI25792 15 rfl).trans (hI25783 15 rfl))]; exact ((congrFun (hA25792 11 rfl) _).trans (congrFun (hA25783 11 rfl) _)))] at c25930
            show GW κ 5 0 0 (wM r g I25792 A25792 L25792) 31 [(3, .int x25788), (2, .int x25789), (0, .ref (r 0)), (1, .int z1)] [.int 1]
            refine g_if_ne (tgt := 37) (a := 1) hk dX12_slack_31 (by decide) rfl (fun _ => ?_) (fun z9 => absurd (show (1 : Int) ≠ (0 : Int) from by decide) z9)
            refine g_aload_n hk dX12_slack_37 rfl ?_
            refine g_iload_n hk dX12_slack_38 rfl ?_
            refine g_iload_n hk dX12_slack_39 rfl ?_
            refine g_callV (n := 2) hk (j169_X12_distanceOf l D zt r g I25792 A25792 L25792 z1 x25788 hV25792 (by omega) (by omega) (by omega) (by omega) (by first | (rw [show (A25792 11 (5 * (I25792 15) + z1).toNatClampNeg) = (A 11 (5 * (I 15) + z1).toNatClampNeg) from (by rw [show I25792 15 = (I 15) from ((hI25792 15 rfl).trans (hI25783 15 rfl))]; exact ((congrFun (hA25792 11 rfl) _).trans (congrFun (hA25783 11 rfl) _)))] <;> omega) | omega) (by first | (rw [show (A25792 11 (5 * (I25792 15) + z1).toNatClampNeg) = (A 11 (5 * (I 15) + z1).toNatClampNeg) from (by rw [show I25792 15 = (I 15) from ((hI25792 15 rfl).trans (hI25783 15 rfl))]; exact ((congrFun (hA25792 11 rfl) _).trans (congrFun (hA25783 11 rfl) _)))] <;> omega) | omega)) (SP.same _) (fun _ h => h) (gi_V (List.mem_cons_of_mem _ (List.mem_append_left _ (List.mem_of_getElem? (i := 10) rfl))) (List.mem_cons_of_mem _ (List.mem_append_left _ (List.mem_of_getElem? (i := 11) rfl))) (List.mem_cons_of_mem _ (List.mem_append_left _ (List.mem_of_getElem? (i := 12) rfl))) (List.mem_cons_of_mem _ (List.mem_append_left _ (List.mem_of_getElem? (i := 3) rfl))) (gi_sub (fun w h => (List.mem_cons_of_mem _ (List.mem_append_right _ (List.mem_append_right _ (List.mem_append_right _ (List.mem_append_right _ (List.mem_append_left _ h))))))) zg_j169_X12_distanceOf)) rfl rfl rfl (by decide +kernel) ⟨Nat.le_of_ble_eq_true rfl, Nat.le_of_ble_eq_true rfl⟩ 0 rfl rfl rfl rfl (Nat.le_of_ble_eq_true rfl) ⟨Nat.le_of_ble_eq_true rfl, Nat.le_of_ble_eq_true rfl⟩ dX12_slack_40 (fun v ty' w' hp hk' => ?_)
            obtain ⟨I25935, A25935, L25935, hI25935, hA25935, hV25935, y25934, r25936, rfl, rfl⟩ := hp
            have f25937 := IvM_f18 hV25935
            show GW κ 5 0 0 (wM r g I25935 A25935 L25935) 43 [(3, .int x25788), (2, .int x25789), (0, .ref (r 0)), (1, .int z1)] [.int y25934]
            refine g_istore (lv' := [(4, .int y25934), (3, .int x25788), (2, .int x25789), (0, .ref (r 0)), (1, .int z1)]) hk dX12_slack_43 (by decide) rfl ?_
            refine g_iload_n hk dX12_slack_45 rfl ?_
            refine g_iload hk dX12_slack_46 rfl ?_
            refine g_aload_n hk dX12_slack_48 rfl ?_
            refine g_callV (n := 0) hk (j182_X12_endsOf l D zt r g I25935 A25935 L25935  hV25935 (by omega)) (SP.same _) (fun _ h => h) (gi_V (List.mem_cons_of_mem _ (List.mem_append_left _ (List.mem_of_getElem? (i := 13) rfl))) (List.mem_cons_of_mem _ (List.mem_append_left _ (List.mem_of_getElem? (i := 14) rfl))) (List.mem_cons_of_mem _ (List.mem_append_left _ (List.mem_of_getElem? (i := 15) rfl))) (List.mem_cons_of_mem _ (List.mem_append_left _ (List.mem_of_getElem? (i := 3) rfl))) (gi_sub (fun w h => (List.mem_cons_of_mem _ (List.mem_append_right _ (List.mem_append_right _ (List.mem_append_right _ (List.mem_append_right _ (List.mem_append_right _ (List.mem_append_left _ h)))))))) zg_j182_X12_endsOf)) rfl rfl rfl (by decide +kernel) ⟨Nat.le_of_ble_eq_true rfl, Nat.le_of_ble_eq_true rfl⟩ 0 rfl rfl rfl rfl (Nat.le_of_ble_eq_true rfl) ⟨Nat.le_of_ble_eq_true rfl, Nat.le_of_ble_eq_true rfl⟩ dX12_slack_49 (fun v ty' w' hp hk' => ?_)
            obtain ⟨y25938, rfl, rfl⟩ := hp
            show GW κ 5 0 0 (wM r g I25935 A25935 L25935) 52 [(4, .int y25934), (3, .int x25788), (2, .int x25789), (0, .ref (r 0)), (1, .int z1)] [.int y25938, .int y25934, .int x25789]
            refine g_aload_n hk dX12_slack_52 rfl ?_
            refine g_callV (n := 0) hk (j181_X12_overOf l D zt r g I25935 A25935 L25935  hV25935) (SP.same _) (fun _ h => h) (gi_V (List.mem_cons_of_mem _ (List.mem_append_left _ (List.mem_of_getElem? (i := 16) rfl))) (List.mem_cons_of_mem _ (List.mem_append_left _ (List.mem_of_getElem? (i := 17) rfl))) (List.mem_cons_of_mem _ (List.mem_append_left _ (List.mem_of_getElem? (i := 18) rfl))) (List.mem_cons_of_mem _ (List.mem_append_left _ (List.mem_of_getElem? (i := 3) rfl))) (gi_sub (fun w h => (List.mem_cons_of_mem _ (List.mem_append_right _ (List.mem_append_right _ (List.mem_append_right _ (List.mem_append_right _ (List.mem_append_right _ (List.mem_append_right _ (List.mem_append_left _ h))))))))) zg_j181_X12_overOf)) rfl rfl rfl (by decide +kernel) ⟨Nat.le_of_ble_eq_true rfl, Nat.le_of_ble_eq_true rfl⟩ 0 rfl rfl rfl rfl (Nat.le_of_ble_eq_true rfl) ⟨Nat.le_of_ble_eq_true rfl, Nat.le_of_ble_eq_true rfl⟩ dX12_slack_53 (fun v ty' w' hp hk' => ?_)
            obtain ⟨y25939, rfl, rfl⟩ := hp
            show GW κ 5 0 0 (wM r g I25935 A25935 L25935) 56 [(4, .int y25934), (3, .int x25788), (2, .int x25789), (0, .ref (r 0)), (1, .int z1)] [.int y25939, .int y25938, .int y25934, .int x25789]
            refine g_aload_n hk dX12_slack_56 rfl ?_
            refine g_callV (n := 0) hk (j180_X12_backOf l D zt r g I25935 A25935 L25935  hV25935) (SP.same _) (fun _ h => h) (gi_V (List.mem_cons_of_mem _ (List.mem_append_left _ (List.mem_of_getElem? (i := 19) rfl))) (List.mem_cons_of_mem _ (List.mem_append_left _ (List.mem_of_getElem? (i := 20) rfl))) (List.mem_cons_of_mem _ (List.mem_append_left _ (List.mem_of_getElem? (i := 21) rfl))) (List.mem_cons_of_mem _ (List.mem_append_left _ (List.mem_of_getElem? (i := 3) rfl))) (gi_sub (fun w h => (List.mem_cons_of_mem _ (List.mem_append_right _ (List.mem_append_right _ (List.mem_append_right _ (List.mem_append_right _ (List.mem_append_right _ (List.mem_append_right _ (List.mem_append_right _ (List.mem_append_left _ h)))))))))) zg_j180_X12_backOf)) rfl rfl rfl (by decide +kernel) ⟨Nat.le_of_ble_eq_true rfl, Nat.le_of_ble_eq_true rfl⟩ 0 rfl rfl rfl rfl (Nat.le_of_ble_eq_true rfl) ⟨Nat.le_of_ble_eq_true rfl, Nat.le_of_ble_eq_true rfl⟩ dX12_slack_57 (fun v ty' w' hp hk' => ?_)
            obtain ⟨I25941, A25941, L25941, hI25941, hA25941, hV25941, y25940, rfl, rfl⟩ := hp
            show GW κ 5 0 0 (wM r g I25941 A25941 L25941) 60 [(4, .int y25934), (3, .int x25788), (2, .int x25789), (0, .ref (r 0)), (1, .int z1)] [.int y25940, .int y25939, .int y25938, .int y25934, .int x25789]
            refine g_callS (n := 2) hk (j210_X12_greater l D zt r g I25941 A25941 L25941 y25939 y25940 hV25941) (SP.same _) (fun _ h => h) (gi_S (List.mem_cons_of_mem _ (List.mem_append_left _ (List.mem_of_getElem? (i := 22) rfl))) (List.mem_cons_of_mem _ (List.mem_append_left _ (List.mem_of_getElem? (i := 23) rfl))) (List.mem_cons_of_mem _ (List.mem_append_left _ (List.mem_of_getElem? (i := 3) rfl))) (gi_sub (fun w h => (List.mem_cons_of_mem _ (List.mem_append_right _ (List.mem_append_right _ (List.mem_append_right _ (List.mem_append_right _ (List.mem_append_right _ (List.mem_append_right _ (List.mem_append_right _ (List.mem_append_right _ (List.mem_append_left _ h))))))))))) zg_j210_X12_greater)) rfl rfl rfl (by decide +kernel) ⟨Nat.le_of_ble_eq_true rfl, Nat.le_of_ble_eq_true rfl⟩ rfl rfl (Nat.le_of_ble_eq_true rfl) ⟨Nat.le_of_ble_eq_true rfl, Nat.le_of_ble_eq_true rfl⟩ dX12_slack_60 (fun v ty' w' hp hk' => ?_)
            obtain ⟨y25942, rfl, rfl⟩ := hp
            show GW κ 5 0 0 (wM r g I25941 A25941 L25941) 63 [(4, .int y25934), (3, .int x25788), (2, .int x25789), (0, .ref (r 0)), (1, .int z1)] [.int y25942, .int y25938, .int y25934, .int x25789]
            refine g_callS (n := 2) hk (j210_X12_greater l D zt r g I25941 A25941 L25941 y25938 y25942 hV25941) (SP.same _) (fun _ h => h) (gi_S (List.mem_cons_of_mem _ (List.mem_append_left _ (List.mem_of_getElem? (i := 22) rfl))) (List.mem_cons_of_mem _ (List.mem_append_left _ (List.mem_of_getElem? (i := 23) rfl))) (List.mem_cons_of_mem _ (List.mem_append_left _ (List.mem_of_getElem? (i := 3) rfl))) (gi_sub (fun w h => (List.mem_cons_of_mem _ (List.mem_append_right _ (List.mem_append_right _ (List.mem_append_right _ (List.mem_append_right _ (List.mem_append_right _ (List.mem_append_right _ (List.mem_append_right _ (List.mem_append_right _ (List.mem_append_left _ h))))))))))) zg_j210_X12_greater)) rfl rfl rfl (by decide +kernel) ⟨Nat.le_of_ble_eq_true rfl, Nat.le_of_ble_eq_true rfl⟩ rfl rfl (Nat.le_of_ble_eq_true rfl) ⟨Nat.le_of_ble_eq_true rfl, Nat.le_of_ble_eq_true rfl⟩ dX12_slack_63 (fun v ty' w' hp hk' => ?_)
            obtain ⟨y25943, rfl, rfl⟩ := hp
            show GW κ 5 0 0 (wM r g I25941 A25941 L25941) 66 [(4, .int y25934), (3, .int x25788), (2, .int x25789), (0, .ref (r 0)), (1, .int z1)] [.int y25943, .int y25934, .int x25789]
            have b25944l := Int32.le_toInt y25934
            have b25944h := Int32.toInt_lt y25934
            have b25945l := Int32.le_toInt y25943
            have b25945h := Int32.toInt_lt y25943
            refine g_isub hk dX12_slack_66 ?_
            refine g_topi (fun y25946 ey25946 => ?_)
            have hy25946 := i32_sub0 ey25946
            have b25947l := Int32.le_toInt x25789
            have b25947h := Int32.toInt_lt x25789
            have b25948l := Int32.le_toInt y25946
            have b25948h := Int32.toInt_lt y25946
            refine g_iadd hk dX12_slack_67 ?_
            refine g_topi (fun y25949 ey25949 => ?_)
            refine g_istore_n (lv' := [(2, .int y25949), (4, .int y25934), (3, .int x25788), (0, .ref (r 0)), (1, .int z1)]) hk dX12_slack_68 (by decide) rfl ?_
            obtain ⟨y25950, ey25950⟩ : ∃ y : Int32, y = x25788 + Int32.ofInt 1 := ⟨_, rfl⟩
            have hy25950 : y25950.toInt = x25788.toInt + 1 := i32_add ey25950 rfl (by decide) (by omega) (by omega)
            refine g_iinc (v := y25950) (lv' := [(3, .int y25950), (2, .int y25949), (4, .int y25934), (0, .ref (r 0)), (1, .int z1)]) hk 2 dX12_slack_69 rfl ey25950.symm (by decide) rfl ?_
            refine g_goto (tgt := 18) hk dX12_slack_72 (by decide) ?_
            have b25951l := Int32.le_toInt y25949
            have b25951h := Int32.toInt_lt y25949
            exact g_lv (List.forall_mem_cons.mpr ⟨List.mem_of_getElem? (i := 0) rfl, (List.forall_mem_cons.mpr ⟨List.mem_of_getElem? (i := 1) rfl, (List.forall_mem_cons.mpr ⟨List.mem_of_getElem? (i := 3) rfl, (List.forall_mem_cons.mpr ⟨List.mem_of_getElem? (i := 4) rfl, (fun _ h => absurd h List.not_mem_nil)⟩)⟩)⟩)⟩) (ih25918 y25950 y25949 I25941 A25941 L25941 (show Md [18, 19, 20] I25783 I25941 from Md.tr hI25792 (show Md [18, 19, 20] I25792 I25941 from (Md.tr (Md.tr Md.rf hI25935 rfl) hI25941 rfl)) rfl) (show Md [19, 20, 21] A25783 A25941 from Md.tr hA25792 (show Md [19, 20, 21] A25792 A25941 from (Md.tr (Md.tr Md.rf hA25935 rfl) hA25941 rfl)) rfl) hV25941 (by omega) (by omega) (by omega) (by omega))
    have k25952 : (0 : Int32).toInt = 0 := rfl
    obtain ⟨n25953, n25953a, n25953b⟩ : ∃ n : Nat, 161 - (0 : Int32).toInt < (n : Int) ∧ 0 < n := ⟨((161 - (0 : Int32).toInt : Int)).toNat + 1, by omega, by omega⟩
    exact lp25915 n25953 0 0 I25783 A25783 L25783 Md.rf Md.rf hV25783 (by omega) (by omega) n25953a n25953b
def wo_j211_X12_turns : List Cond := [Cond.methodLink RX12 251 yX12_isQuery, Cond.instanceMethod yX12_isQuery, Cond.selects RX12 yX12_isQuery yX12_isQuery, Cond.initialized RX12, Cond.methodLink RX12 357 yX12_fillsFar, Cond.instanceMethod yX12_fillsFar, Cond.selects RX12 yX12_fillsFar yX12_fillsFar, Cond.fieldLink RX12 91 "WarpDeskModel" "farBy" "[I"]
def wz_j211_X12_turns : List Cond := .code yX12_turns cX12_turns 6 (some .int) :: (wo_j211_X12_turns ++ (wsX120 ++ (wz_j147_X12_isQuery ++ (wz_j186_X12_fillsFar ++ ([] : List Cond)))))
theorem zg_j211_X12_turns : ∀ w ∈ wz_j211_X12_turns, goodWord w = true := zg_cons rfl (zg_app (by decide +kernel) (zg_app zgU_wsX120 (zg_app zg_j147_X12_isQuery (zg_app zg_j186_X12_fillsFar zg_nil))))
theorem zi_j211_X12_turns : ∀ w ∈ wz_j211_X12_turns, w ∈ lw_tbl := zi_cons zw_1906 (zi_app (zi_cons zw_1663 (zi_cons zw_1665 (zi_cons zw_67 (zi_cons zw_115 (zi_cons zw_1844 (zi_cons zw_1846 (zi_cons zw_93 (zi_cons zw_1426 zi_nil)))))))) (zi_app inX12 (zi_app zi_j147_X12_isQuery (zi_app zi_j186_X12_fillsFar zi_nil))))
set_option maxHeartbeats 4000000 in
set_option maxRecDepth 100000 in
theorem j211_X12_turns (l : Launch) (D : va_G) (zt : Nat × Nat × Nat × (Nat → Nat) × (Nat → Nat)) (r : Nat → Nat) (g : Nat → ClassId) (I : Nat → Int32) (A : Nat → Nat → Int32) (L : Nat → Nat → Int64) (z1 : Int32) (hIv : IvM I A) : GM l D zt (tyM g) yX12_turns wz_j211_X12_turns ({ frames := 7, cells := 0, slots := 0, locals := 156 } : Room) [.ref (r 0), .int z1] (wM r g I A L) (fun v _ w' => ∃ (I' : Nat → Int32) (A' : Nat → Nat → Int32) (L' : Nat → Nat → Int64), Md [18, 19, 20] I I' ∧ Md [18, 19, 20, 21, 24] A A' ∧ IvM I' A' ∧ ∃ y0 : Int32, v = some (.int y0) ∧ w' = wM r g I' A' L') 0 0 := by
  refine GM.of (cc := cX12_turns) (maxL := 6) (ret := (some .int)) (own := RX12) (lv := [(0, .ref (r 0)), (1, .int z1)]) (by decide) rfl rfl (Nat.le_of_ble_eq_true rfl) rfl (fun κ sz hk hR hN => ?_)
  have hin12 : ∀ w ∈ u_ws RX12 TX12 55, w ∈ wz_j211_X12_turns := fun w h => (List.mem_cons_of_mem _ (List.mem_append_right _ (List.mem_append_left _ h)))
  refine g_aload_n hk dX12_turns_0 rfl ?_
  refine g_iload_n hk dX12_turns_1 rfl ?_
  refine g_callV (n := 1) hk (j147_X12_isQuery l D zt r g I A L z1 hIv) (SP.same _) (fun _ h => h) (gi_V (List.mem_cons_of_mem _ (List.mem_append_left _ (List.mem_of_getElem? (i := 0) rfl))) (List.mem_cons_of_mem _ (List.mem_append_left _ (List.mem_of_getElem? (i := 1) rfl))) (List.mem_cons_of_mem _ (List.mem_append_left _ (List.mem_of_getElem? (i := 2) rfl))) (List.mem_cons_of_mem _ (List.mem_append_left _ (List.mem_of_getElem? (i := 3) rfl))) (gi_sub (fun w h => (List.mem_cons_of_mem _ (List.mem_append_right _ (List.mem_append_right _ (List.mem_append_left _ h))))) zg_j147_X12_isQuery)) rfl rfl rfl (by decide +kernel) ⟨Nat.le_of_ble_eq_true rfl, Nat.le_of_ble_eq_true rfl⟩ 0 rfl rfl rfl rfl (Nat.le_of_ble_eq_true rfl) ⟨Nat.le_of_ble_eq_true rfl, Nat.le_of_ble_eq_true rfl⟩ dX12_turns_2 (fun v ty' w' hp hk' => ?_)
  rcases hp with ⟨rfl, rfl⟩ | ⟨c25955, c25956, c25957, c25958, rfl, rfl⟩
  · skip
    show GW κ 6 0 0 (wM r g I A L) 5 [(0, .ref (r 0)), (1, .int z1)] [.int 0]
    refine g_if_ne (tgt := 10) (a := 0) hk dX12_turns_5 (by decide) rfl (fun z9 => absurd z9 (show ¬ ((0 : Int) ≠ (0 : Int)) from by decide)) (fun _ => ?_)
    refine g_iconst (v := (-1)) hk dX12_turns_8 (by decide) ?_
    exact g_iret hk hR rfl ⟨I, A, L, (show Md [18, 19, 20] I I from Md.rf), (show Md [18, 19, 20, 21, 24] A A from Md.rf), hIv, (-1), rfl, rfl⟩ dX12_turns_9
  · skip
    have f25960 : 0 ≤ (A 11 (5 * (I 15) + z1).toNatClampNeg).toInt ∧ (A 11 (5 * (I 15) + z1).toNatClampNeg).toInt ≤ 16 := IvM_a11 hIv _
    show GW κ 6 0 0 (wM r g I A L) 5 [(0, .ref (r 0)), (1, .int z1)] [.int 1]
    refine g_if_ne (tgt := 10) (a := 1) hk dX12_turns_5 (by decide) rfl (fun _ => ?_) (fun z9 => absurd (show (1 : Int) ≠ (0 : Int) from by decide) z9)
    refine g_aload_n hk dX12_turns_10 rfl ?_
    refine g_iload_n hk dX12_turns_11 rfl ?_
    refine g_callV (n := 1) hk (j186_X12_fillsFar l D zt r g I A L z1 hIv (by omega) (by omega)) (SP.same _) (fun _ h => h) (gi_V (List.mem_cons_of_mem _ (List.mem_append_left _ (List.mem_of_getElem? (i := 4) rfl))) (List.mem_cons_of_mem _ (List.mem_append_left _ (List.mem_of_getElem? (i := 5) rfl))) (List.mem_cons_of_mem _ (List.mem_append_left _ (List.mem_of_getElem? (i := 6) rfl))) (List.mem_cons_of_mem _ (List.mem_append_left _ (List.mem_of_getElem? (i := 3) rfl))) (gi_sub (fun w h => (List.mem_cons_of_mem _ (List.mem_append_right _ (List.mem_append_right _ (List.mem_append_right _ (List.mem_append_left _ h)))))) zg_j186_X12_fillsFar)) rfl rfl rfl (by decide +kernel) ⟨Nat.le_of_ble_eq_true rfl, Nat.le_of_ble_eq_true rfl⟩ 0 rfl rfl rfl rfl (Nat.le_of_ble_eq_true rfl) ⟨Nat.le_of_ble_eq_true rfl, Nat.le_of_ble_eq_true rfl⟩ dX12_turns_12 (fun v ty' w' hp hk' => ?_)
    obtain ⟨I25962, A25962, L25962, hI25962, hA25962, hV25962, r25963, rfl, rfl⟩ := hp
    show GW κ 6 0 0 (wM r g I25962 A25962 L25962) 15 [(0, .ref (r 0)), (1, .int z1)] []
    refine g_iconst (v := (-1)) hk dX12_turns_15 (by decide) ?_
    refine g_istore_n (lv' := [(2, .int (-1)), (0, .ref (r 0)), (1, .int z1)]) hk dX12_turns_16 (by decide) rfl ?_
    refine g_iconst (v := 0) hk dX12_turns_17 (by decide) ?_
    refine g_istore_n (lv' := [(3, .int 0), (2, .int (-1)), (0, .ref (r 0)), (1, .int z1)]) hk dX12_turns_18 (by decide) rfl ?_
    refine g_iconst (v := 0) hk dX12_turns_19 (by decide) ?_
    refine g_istore (lv' := [(4, .int 0), (3, .int 0), (2, .int (-1)), (0, .ref (r 0)), (1, .int z1)]) hk dX12_turns_20 (by decide) rfl ?_
    refine g_iconst (v := 0) hk dX12_turns_22 (by decide) ?_
    refine g_istore (lv' := [(5, .int 0), (4, .int 0), (3, .int 0), (2, .int (-1)), (0, .ref (r 0)), (1, .int z1)]) hk dX12_turns_23 (by decide) rfl ?_
    have lp26070 : ∀ (n26071 : Nat) (x25964 : Int32) (x25965 : Int32) (x25966 : Int32) (x25967 : Int32), (0 ≤ x25964.toInt) → (x25964.toInt ≤ 160) → (0 ≤ x25966.toInt) → (x25966.toInt ≤ 1) → ((-1) ≤ x25967.toInt) → (161 - x25964.toInt < (n26071 : Int)) → (0 < n26071) → GW κ 6 0 0 (wM r g I25962 A25962 L25962) 25 [(5, .int x25964), (4, .int x25965), (3, .int x25966), (2, .int x25967), (0, .ref (r 0)), (1, .int z1)] [] := by
      intro n26071
      induction n26071 with
      | zero =>
        intro x25964 x25965 x25966 x25967 h26065 h26066 h26067 h26068 h26069 m26072 m26072z
        exact absurd m26072z (Nat.lt_irrefl 0)
      | succ n26071 ih26073 =>
        intro x25964 x25965 x25966 x25967 h26065 h26066 h26067 h26068 h26069 m26072 m26072z
        refine g_iload hk dX12_turns_25 rfl ?_
        refine g_sipush (v := 160) hk dX12_turns_27 (by decide) ?_
        refine g_icmp_ge (tgt := 101) (a := x25964.toInt) (b := 160) hk dX12_turns_30 (by decide) rfl rfl (fun c26074 => ?_) (fun c26074 => ?_)
        · skip
          refine g_iload hk dX12_turns_101 rfl ?_
          have b26075l := Int32.le_toInt x25965
          have b26075h := Int32.toInt_lt x25965
          exact g_iret hk hR rfl ⟨I25962, A25962, L25962, (show Md [18, 19, 20] I I25962 from (Md.tr Md.rf hI25962 rfl)), (show Md [18, 19, 20, 21, 24] A A25962 from (Md.tr Md.rf hA25962 rfl)), hV25962, x25965, rfl, rfl⟩ dX12_turns_103
        · skip
          refine g_aload_n hk dX12_turns_33 rfl ?_
          refine gM_r0_48 hk hin12 (List.mem_cons_of_mem _ (List.mem_append_left _ (List.mem_of_getElem? (i := 7) rfl))) dX12_turns_34 ?_
          refine g_iload hk dX12_turns_37 rfl ?_
          refine lM_24 (v := (A25962 24 x25964.toNatClampNeg)) hk (vp_in_iff.mpr ⟨by omega, by omega⟩) rfl dX12_turns_39 ?_
          have b26076l := Int32.le_toInt (A25962 24 x25964.toNatClampNeg)
          have b26076h := Int32.toInt_lt (A25962 24 x25964.toNatClampNeg)
          refine g_if_ge (tgt := 46) (a := (A25962 24 x25964.toNatClampNeg).toInt) hk dX12_turns_40 (by decide) rfl (fun c26077 => ?_) (fun c26077 => ?_)
          · skip
            refine g_iload_n hk dX12_turns_46 rfl ?_
            have b26078l := Int32.le_toInt x25967
            have b26078h := Int32.toInt_lt x25967
            refine g_if_lt (tgt := 63) (a := x25967.toInt) hk dX12_turns_47 (by decide) rfl (fun c26079 => ?_) (fun c26079 => ?_)
            · skip
              refine g_iload_n hk dX12_turns_63 rfl ?_
              refine g_if_lt (tgt := 87) (a := x25967.toInt) hk dX12_turns_64 (by decide) rfl (fun _ => ?_) (fun z9 => absurd (show x25967.toInt < 0 from by omega) z9)
              refine g_aload_n hk dX12_turns_87 rfl ?_
              refine gM_r0_48 hk hin12 (List.mem_cons_of_mem _ (List.mem_append_left _ (List.mem_of_getElem? (i := 7) rfl))) dX12_turns_88 ?_
              refine g_iload hk dX12_turns_91 rfl ?_
              refine lM_24 (v := (A25962 24 x25964.toNatClampNeg)) hk (vp_in_iff.mpr ⟨by omega, by omega⟩) rfl dX12_turns_93 ?_
              refine g_istore_n (lv' := [(2, .int (A25962 24 x25964.toNatClampNeg)), (5, .int x25964), (4, .int x25965), (3, .int x25966), (0, .ref (r 0)), (1, .int z1)]) hk dX12_turns_94 (by decide) rfl ?_
              obtain ⟨y26080, ey26080⟩ : ∃ y : Int32, y = x25964 + Int32.ofInt 1 := ⟨_, rfl⟩
              have hy26080 : y26080.toInt = x25964.toInt + 1 := i32_add ey26080 rfl (by decide) (by omega) (by omega)
              refine g_iinc (v := y26080) (lv' := [(5, .int y26080), (2, .int (A25962 24 x25964.toNatClampNeg)), (4, .int x25965), (3, .int x25966), (0, .ref (r 0)), (1, .int z1)]) hk 1 dX12_turns_95 rfl ey26080.symm (by decide) rfl ?_
              refine g_goto (tgt := 25) hk dX12_turns_98 (by decide) ?_
              have b26081l := Int32.le_toInt x25965
              have b26081h := Int32.toInt_lt x25965
              exact g_lv (List.forall_mem_cons.mpr ⟨List.mem_of_getElem? (i := 0) rfl, (List.forall_mem_cons.mpr ⟨List.mem_of_getElem? (i := 2) rfl, (List.forall_mem_cons.mpr ⟨List.mem_of_getElem? (i := 3) rfl, (List.forall_mem_cons.mpr ⟨List.mem_of_getElem? (i := 1) rfl, (List.forall_mem_cons.mpr ⟨List.mem_of_getElem? (i := 4) rfl, (List.forall_mem_cons.mpr ⟨List.mem_of_getElem? (i := 5) rfl, (fun _ h => absurd h List.not_mem_nil)⟩)⟩)⟩)⟩)⟩)⟩) (ih26073 y26080 x25965 x25966 (A25962 24 x25964.toNatClampNeg) (by omega) (by omega) (by omega) (by omega) (by omega) (by omega) (by omega))
            · skip
              refine g_aload_n hk dX12_turns_50 rfl ?_
              refine gM_r0_48 hk hin12 (List.mem_cons_of_mem _ (List.mem_append_left _ (List.mem_of_getElem? (i := 7) rfl))) dX12_turns_51 ?_
              refine g_iload hk dX12_turns_54 rfl ?_
              refine lM_24 (v := (A25962 24 x25964.toNatClampNeg)) hk (vp_in_iff.mpr ⟨by omega, by omega⟩) rfl dX12_turns_56 ?_
              refine g_iload_n hk dX12_turns_57 rfl ?_
              refine g_icmp_ge (tgt := 63) (a := (A25962 24 x25964.toNatClampNeg).toInt) (b := x25967.toInt) hk dX12_turns_58 (by decide) rfl rfl (fun c26082 => ?_) (fun c26082 => ?_)
              · skip
                refine g_iload_n hk dX12_turns_63 rfl ?_
                refine g_if_lt (tgt := 87) (a := x25967.toInt) hk dX12_turns_64 (by decide) rfl (fun z9 => absurd z9 (show ¬ (x25967.toInt < 0) from by omega)) (fun _ => ?_)
                refine g_aload_n hk dX12_turns_67 rfl ?_
                refine gM_r0_48 hk hin12 (List.mem_cons_of_mem _ (List.mem_append_left _ (List.mem_of_getElem? (i := 7) rfl))) dX12_turns_68 ?_
                refine g_iload hk dX12_turns_71 rfl ?_
                refine lM_24 (v := (A25962 24 x25964.toNatClampNeg)) hk (vp_in_iff.mpr ⟨by omega, by omega⟩) rfl dX12_turns_73 ?_
                refine g_iload_n hk dX12_turns_74 rfl ?_
                refine g_icmp_le (tgt := 87) (a := (A25962 24 x25964.toNatClampNeg).toInt) (b := x25967.toInt) hk dX12_turns_75 (by decide) rfl rfl (fun c26083 => ?_) (fun c26083 => ?_)
                · skip
                  refine g_aload_n hk dX12_turns_87 rfl ?_
                  refine gM_r0_48 hk hin12 (List.mem_cons_of_mem _ (List.mem_append_left _ (List.mem_of_getElem? (i := 7) rfl))) dX12_turns_88 ?_
                  refine g_iload hk dX12_turns_91 rfl ?_
                  refine lM_24 (v := (A25962 24 x25964.toNatClampNeg)) hk (vp_in_iff.mpr ⟨by omega, by omega⟩) rfl dX12_turns_93 ?_
                  refine g_istore_n (lv' := [(2, .int (A25962 24 x25964.toNatClampNeg)), (5, .int x25964), (4, .int x25965), (3, .int x25966), (0, .ref (r 0)), (1, .int z1)]) hk dX12_turns_94 (by decide) rfl ?_
                  obtain ⟨y26084, ey26084⟩ : ∃ y : Int32, y = x25964 + Int32.ofInt 1 := ⟨_, rfl⟩
                  have hy26084 : y26084.toInt = x25964.toInt + 1 := i32_add ey26084 rfl (by decide) (by omega) (by omega)
                  refine g_iinc (v := y26084) (lv' := [(5, .int y26084), (2, .int (A25962 24 x25964.toNatClampNeg)), (4, .int x25965), (3, .int x25966), (0, .ref (r 0)), (1, .int z1)]) hk 1 dX12_turns_95 rfl ey26084.symm (by decide) rfl ?_
                  refine g_goto (tgt := 25) hk dX12_turns_98 (by decide) ?_
                  have b26085l := Int32.le_toInt x25965
                  have b26085h := Int32.toInt_lt x25965
                  exact g_lv (List.forall_mem_cons.mpr ⟨List.mem_of_getElem? (i := 0) rfl, (List.forall_mem_cons.mpr ⟨List.mem_of_getElem? (i := 2) rfl, (List.forall_mem_cons.mpr ⟨List.mem_of_getElem? (i := 3) rfl, (List.forall_mem_cons.mpr ⟨List.mem_of_getElem? (i := 1) rfl, (List.forall_mem_cons.mpr ⟨List.mem_of_getElem? (i := 4) rfl, (List.forall_mem_cons.mpr ⟨List.mem_of_getElem? (i := 5) rfl, (fun _ h => absurd h List.not_mem_nil)⟩)⟩)⟩)⟩)⟩)⟩) (ih26073 y26084 x25965 x25966 (A25962 24 x25964.toNatClampNeg) (by omega) (by omega) (by omega) (by omega) (by omega) (by omega) (by omega))
                · skip
                  refine g_iload_n hk dX12_turns_78 rfl ?_
                  refine g_if_eq (tgt := 85) (a := x25966.toInt) hk dX12_turns_79 (by decide) rfl (fun c26086 => ?_) (fun c26086 => ?_)
                  · skip
                    refine g_iconst (v := 0) hk dX12_turns_85 (by decide) ?_
                    refine g_istore_n (lv' := [(3, .int 0), (5, .int x25964), (4, .int x25965), (2, .int x25967), (0, .ref (r 0)), (1, .int z1)]) hk dX12_turns_86 (by decide) rfl ?_
                    refine g_aload_n hk dX12_turns_87 rfl ?_
                    refine gM_r0_48 hk hin12 (List.mem_cons_of_mem _ (List.mem_append_left _ (List.mem_of_getElem? (i := 7) rfl))) dX12_turns_88 ?_
                    refine g_iload hk dX12_turns_91 rfl ?_
                    refine lM_24 (v := (A25962 24 x25964.toNatClampNeg)) hk (vp_in_iff.mpr ⟨by omega, by omega⟩) rfl dX12_turns_93 ?_
                    refine g_istore_n (lv' := [(2, .int (A25962 24 x25964.toNatClampNeg)), (3, .int 0), (5, .int x25964), (4, .int x25965), (0, .ref (r 0)), (1, .int z1)]) hk dX12_turns_94 (by decide) rfl ?_
                    obtain ⟨y26087, ey26087⟩ : ∃ y : Int32, y = x25964 + Int32.ofInt 1 := ⟨_, rfl⟩
                    have hy26087 : y26087.toInt = x25964.toInt + 1 := i32_add ey26087 rfl (by decide) (by omega) (by omega)
                    refine g_iinc (v := y26087) (lv' := [(5, .int y26087), (2, .int (A25962 24 x25964.toNatClampNeg)), (3, .int 0), (4, .int x25965), (0, .ref (r 0)), (1, .int z1)]) hk 2 dX12_turns_95 rfl ey26087.symm (by decide) rfl ?_
                    refine g_goto (tgt := 25) hk dX12_turns_98 (by decide) ?_
                    have b26088l := Int32.le_toInt x25965
                    have b26088h := Int32.toInt_lt x25965
                    have k26089 : (0 : Int32).toInt = 0 := rfl
                    exact g_lv (List.forall_mem_cons.mpr ⟨List.mem_of_getElem? (i := 0) rfl, (List.forall_mem_cons.mpr ⟨List.mem_of_getElem? (i := 3) rfl, (List.forall_mem_cons.mpr ⟨List.mem_of_getElem? (i := 2) rfl, (List.forall_mem_cons.mpr ⟨List.mem_of_getElem? (i := 1) rfl, (List.forall_mem_cons.mpr ⟨List.mem_of_getElem? (i := 4) rfl, (List.forall_mem_cons.mpr ⟨List.mem_of_getElem? (i := 5) rfl, (fun _ h => absurd h List.not_mem_nil)⟩)⟩)⟩)⟩)⟩)⟩) (ih26073 y26087 x25965 0 (A25962 24 x25964.toNatClampNeg) (by omega) (by omega) (by omega) (by omega) (by omega) (by omega) (by omega))
                  · skip
                    have b26090l := Int32.le_toInt x25965
                    have b26090h := Int32.toInt_lt x25965
                    obtain ⟨y26091, ey26091⟩ : ∃ y : Int32, y = x25965 + Int32.ofInt 1 := ⟨_, rfl⟩
                    refine g_iinc (v := y26091) (lv' := [(4, .int y26091), (5, .int x25964), (3, .int x25966), (2, .int x25967), (0, .ref (r 0)), (1, .int z1)]) hk 1 dX12_turns_82 rfl ey26091.symm (by decide) rfl ?_
                    refine g_iconst (v := 0) hk dX12_turns_85 (by decide) ?_
                    refine g_istore_n (lv' := [(3, .int 0), (4, .int y26091), (5, .int x25964), (2, .int x25967), (0, .ref (r 0)), (1, .int z1)]) hk dX12_turns_86 (by decide) rfl ?_
                    refine g_aload_n hk dX12_turns_87 rfl ?_
                    refine gM_r0_48 hk hin12 (List.mem_cons_of_mem _ (List.mem_append_left _ (List.mem_of_getElem? (i := 7) rfl))) dX12_turns_88 ?_
                    refine g_iload hk dX12_turns_91 rfl ?_
                    refine lM_24 (v := (A25962 24 x25964.toNatClampNeg)) hk (vp_in_iff.mpr ⟨by omega, by omega⟩) rfl dX12_turns_93 ?_
                    refine g_istore_n (lv' := [(2, .int (A25962 24 x25964.toNatClampNeg)), (3, .int 0), (4, .int y26091), (5, .int x25964), (0, .ref (r 0)), (1, .int z1)]) hk dX12_turns_94 (by decide) rfl ?_
                    obtain ⟨y26092, ey26092⟩ : ∃ y : Int32, y = x25964 + Int32.ofInt 1 := ⟨_, rfl⟩
                    have hy26092 : y26092.toInt = x25964.toInt + 1 := i32_add ey26092 rfl (by decide) (by omega) (by omega)
                    refine g_iinc (v := y26092) (lv' := [(5, .int y26092), (2, .int (A25962 24 x25964.toNatClampNeg)), (3, .int 0), (4, .int y26091), (0, .ref (r 0)), (1, .int z1)]) hk 3 dX12_turns_95 rfl ey26092.symm (by decide) rfl ?_
                    refine g_goto (tgt := 25) hk dX12_turns_98 (by decide) ?_
                    have b26093l := Int32.le_toInt y26091
                    have b26093h := Int32.toInt_lt y26091
                    have k26094 : (0 : Int32).toInt = 0 := rfl
                    exact g_lv (List.forall_mem_cons.mpr ⟨List.mem_of_getElem? (i := 0) rfl, (List.forall_mem_cons.mpr ⟨List.mem_of_getElem? (i := 3) rfl, (List.forall_mem_cons.mpr ⟨List.mem_of_getElem? (i := 2) rfl, (List.forall_mem_cons.mpr ⟨List.mem_of_getElem? (i := 1) rfl, (List.forall_mem_cons.mpr ⟨List.mem_of_getElem? (i := 4) rfl, (List.forall_mem_cons.mpr ⟨List.mem_of_getElem? (i := 5) rfl, (fun _ h => absurd h List.not_mem_nil)⟩)⟩)⟩)⟩)⟩)⟩) (ih26073 y26092 y26091 0 (A25962 24 x25964.toNatClampNeg) (by omega) (by omega) (by omega) (by omega) (by omega) (by omega) (by omega))
              · skip
                refine g_iconst (v := 1) hk dX12_turns_61 (by decide) ?_
                refine g_istore_n (lv' := [(3, .int 1), (5, .int x25964), (4, .int x25965), (2, .int x25967), (0, .ref (r 0)), (1, .int z1)]) hk dX12_turns_62 (by decide) rfl ?_
                refine g_iload_n hk dX12_turns_63 rfl ?_
                refine g_if_lt (tgt := 87) (a := x25967.toInt) hk dX12_turns_64 (by decide) rfl (fun z9 => absurd z9 (show ¬ (x25967.toInt < 0) from by omega)) (fun _ => ?_)
                refine g_aload_n hk dX12_turns_67 rfl ?_
                refine gM_r0_48 hk hin12 (List.mem_cons_of_mem _ (List.mem_append_left _ (List.mem_of_getElem? (i := 7) rfl))) dX12_turns_68 ?_
                refine g_iload hk dX12_turns_71 rfl ?_
                refine lM_24 (v := (A25962 24 x25964.toNatClampNeg)) hk (vp_in_iff.mpr ⟨by omega, by omega⟩) rfl dX12_turns_73 ?_
                refine g_iload_n hk dX12_turns_74 rfl ?_
                refine g_icmp_le (tgt := 87) (a := (A25962 24 x25964.toNatClampNeg).toInt) (b := x25967.toInt) hk dX12_turns_75 (by decide) rfl rfl (fun c26095 => ?_) (fun c26095 => ?_)
                · skip
                  refine g_aload_n hk dX12_turns_87 rfl ?_
                  refine gM_r0_48 hk hin12 (List.mem_cons_of_mem _ (List.mem_append_left _ (List.mem_of_getElem? (i := 7) rfl))) dX12_turns_88 ?_
                  refine g_iload hk dX12_turns_91 rfl ?_
                  refine lM_24 (v := (A25962 24 x25964.toNatClampNeg)) hk (vp_in_iff.mpr ⟨by omega, by omega⟩) rfl dX12_turns_93 ?_
                  refine g_istore_n (lv' := [(2, .int (A25962 24 x25964.toNatClampNeg)), (3, .int 1), (5, .int x25964), (4, .int x25965), (0, .ref (r 0)), (1, .int z1)]) hk dX12_turns_94 (by decide) rfl ?_
                  obtain ⟨y26096, ey26096⟩ : ∃ y : Int32, y = x25964 + Int32.ofInt 1 := ⟨_, rfl⟩
                  have hy26096 : y26096.toInt = x25964.toInt + 1 := i32_add ey26096 rfl (by decide) (by omega) (by omega)
                  refine g_iinc (v := y26096) (lv' := [(5, .int y26096), (2, .int (A25962 24 x25964.toNatClampNeg)), (3, .int 1), (4, .int x25965), (0, .ref (r 0)), (1, .int z1)]) hk 2 dX12_turns_95 rfl ey26096.symm (by decide) rfl ?_
                  refine g_goto (tgt := 25) hk dX12_turns_98 (by decide) ?_
                  have b26097l := Int32.le_toInt x25965
                  have b26097h := Int32.toInt_lt x25965
                  have k26098 : (1 : Int32).toInt = 1 := rfl
                  exact g_lv (List.forall_mem_cons.mpr ⟨List.mem_of_getElem? (i := 0) rfl, (List.forall_mem_cons.mpr ⟨List.mem_of_getElem? (i := 3) rfl, (List.forall_mem_cons.mpr ⟨List.mem_of_getElem? (i := 2) rfl, (List.forall_mem_cons.mpr ⟨List.mem_of_getElem? (i := 1) rfl, (List.forall_mem_cons.mpr ⟨List.mem_of_getElem? (i := 4) rfl, (List.forall_mem_cons.mpr ⟨List.mem_of_getElem? (i := 5) rfl, (fun _ h => absurd h List.not_mem_nil)⟩)⟩)⟩)⟩)⟩)⟩) (ih26073 y26096 x25965 1 (A25962 24 x25964.toNatClampNeg) (by omega) (by omega) (by omega) (by omega) (by omega) (by omega) (by omega))
                · skip
                  refine g_iload_n hk dX12_turns_78 rfl ?_
                  refine g_if_eq (tgt := 85) (a := 1) hk dX12_turns_79 (by decide) rfl (fun z9 => absurd z9 (show ¬ ((1 : Int) = (0 : Int)) from by decide)) (fun _ => ?_)
                  have b26099l := Int32.le_toInt x25965
                  have b26099h := Int32.toInt_lt x25965
                  obtain ⟨y26100, ey26100⟩ : ∃ y : Int32, y = x25965 + Int32.ofInt 1 := ⟨_, rfl⟩
                  refine g_iinc (v := y26100) (lv' := [(4, .int y26100), (3, .int 1), (5, .int x25964), (2, .int x25967), (0, .ref (r 0)), (1, .int z1)]) hk 2 dX12_turns_82 rfl ey26100.symm (by decide) rfl ?_
                  refine g_iconst (v := 0) hk dX12_turns_85 (by decide) ?_
                  refine g_istore_n (lv' := [(3, .int 0), (4, .int y26100), (5, .int x25964), (2, .int x25967), (0, .ref (r 0)), (1, .int z1)]) hk dX12_turns_86 (by decide) rfl ?_
                  refine g_aload_n hk dX12_turns_87 rfl ?_
                  refine gM_r0_48 hk hin12 (List.mem_cons_of_mem _ (List.mem_append_left _ (List.mem_of_getElem? (i := 7) rfl))) dX12_turns_88 ?_
                  refine g_iload hk dX12_turns_91 rfl ?_
                  refine lM_24 (v := (A25962 24 x25964.toNatClampNeg)) hk (vp_in_iff.mpr ⟨by omega, by omega⟩) rfl dX12_turns_93 ?_
                  refine g_istore_n (lv' := [(2, .int (A25962 24 x25964.toNatClampNeg)), (3, .int 0), (4, .int y26100), (5, .int x25964), (0, .ref (r 0)), (1, .int z1)]) hk dX12_turns_94 (by decide) rfl ?_
                  obtain ⟨y26101, ey26101⟩ : ∃ y : Int32, y = x25964 + Int32.ofInt 1 := ⟨_, rfl⟩
                  have hy26101 : y26101.toInt = x25964.toInt + 1 := i32_add ey26101 rfl (by decide) (by omega) (by omega)
                  refine g_iinc (v := y26101) (lv' := [(5, .int y26101), (2, .int (A25962 24 x25964.toNatClampNeg)), (3, .int 0), (4, .int y26100), (0, .ref (r 0)), (1, .int z1)]) hk 3 dX12_turns_95 rfl ey26101.symm (by decide) rfl ?_
                  refine g_goto (tgt := 25) hk dX12_turns_98 (by decide) ?_
                  have b26102l := Int32.le_toInt y26100
                  have b26102h := Int32.toInt_lt y26100
                  have k26103 : (0 : Int32).toInt = 0 := rfl
                  exact g_lv (List.forall_mem_cons.mpr ⟨List.mem_of_getElem? (i := 0) rfl, (List.forall_mem_cons.mpr ⟨List.mem_of_getElem? (i := 3) rfl, (List.forall_mem_cons.mpr ⟨List.mem_of_getElem? (i := 2) rfl, (List.forall_mem_cons.mpr ⟨List.mem_of_getElem? (i := 1) rfl, (List.forall_mem_cons.mpr ⟨List.mem_of_getElem? (i := 4) rfl, (List.forall_mem_cons.mpr ⟨List.mem_of_getElem? (i := 5) rfl, (fun _ h => absurd h List.not_mem_nil)⟩)⟩)⟩)⟩)⟩)⟩) (ih26073 y26101 y26100 0 (A25962 24 x25964.toNatClampNeg) (by omega) (by omega) (by omega) (by omega) (by omega) (by omega) (by omega))
          · skip
            refine g_goto (tgt := 95) hk dX12_turns_43 (by decide) ?_
            obtain ⟨y26104, ey26104⟩ : ∃ y : Int32, y = x25964 + Int32.ofInt 1 := ⟨_, rfl⟩
            have hy26104 : y26104.toInt = x25964.toInt + 1 := i32_add ey26104 rfl (by decide) (by omega) (by omega)
            refine g_iinc (v := y26104) (lv' := [(5, .int y26104), (4, .int x25965), (3, .int x25966), (2, .int x25967), (0, .ref (r 0)), (1, .int z1)]) hk 0 dX12_turns_95 rfl ey26104.symm (by decide) rfl ?_
            refine g_goto (tgt := 25) hk dX12_turns_98 (by decide) ?_
            have b26105l := Int32.le_toInt x25965
            have b26105h := Int32.toInt_lt x25965
            have b26106l := Int32.le_toInt x25967
            have b26106h := Int32.toInt_lt x25967
            exact g_lv (List.forall_mem_cons.mpr ⟨List.mem_of_getElem? (i := 0) rfl, (List.forall_mem_cons.mpr ⟨List.mem_of_getElem? (i := 1) rfl, (List.forall_mem_cons.mpr ⟨List.mem_of_getElem? (i := 2) rfl, (List.forall_mem_cons.mpr ⟨List.mem_of_getElem? (i := 3) rfl, (List.forall_mem_cons.mpr ⟨List.mem_of_getElem? (i := 4) rfl, (List.forall_mem_cons.mpr ⟨List.mem_of_getElem? (i := 5) rfl, (fun _ h => absurd h List.not_mem_nil)⟩)⟩)⟩)⟩)⟩)⟩) (ih26073 y26104 x25965 x25966 x25967 (by omega) (by omega) (by omega) (by omega) (by omega) (by omega) (by omega))
    have k26107 : (0 : Int32).toInt = 0 := rfl
    have k26108 : ((-1) : Int32).toInt = (-1) := rfl
    obtain ⟨n26109, n26109a, n26109b⟩ : ∃ n : Nat, 161 - (0 : Int32).toInt < (n : Int) ∧ 0 < n := ⟨((161 - (0 : Int32).toInt : Int)).toNat + 1, by omega, by omega⟩
    exact lp26070 n26109 0 0 0 (-1) (by omega) (by omega) (by omega) (by omega) (by omega) n26109a n26109b
def wo_j212_X12_flat : List Cond := [Cond.methodLink RX12 244 yX12_in, Cond.static yX12_in, Cond.initialized RX12, Cond.fieldLink RX12 70 "WarpDeskModel" "now" "[I", Cond.methodLink RX12 257 yX12_isWindow, Cond.instanceMethod yX12_isWindow, Cond.selects RX12 yX12_isWindow yX12_isWindow, Cond.methodLink RX12 336 yX12_leastOf, Cond.instanceMethod yX12_leastOf, Cond.selects RX12 yX12_leastOf yX12_leastOf, Cond.methodLink RX12 339 yX12_mostOf, Cond.instanceMethod yX12_mostOf, Cond.selects RX12 yX12_mostOf yX12_mostOf]
def wz_j212_X12_flat : List Cond := .code yX12_flat cX12_flat 4 (some .int) :: (wo_j212_X12_flat ++ (wsX120 ++ (wz_j145_X12_in ++ (wz_j160_X12_isWindow ++ (wz_j162_X12_leastOf ++ (wz_j163_X12_mostOf ++ ([] : List Cond)))))))
theorem zg_j212_X12_flat : ∀ w ∈ wz_j212_X12_flat, goodWord w = true := zg_cons rfl (zg_app (by decide +kernel) (zg_app zgU_wsX120 (zg_app zg_j145_X12_in (zg_app zg_j160_X12_isWindow (zg_app zg_j162_X12_leastOf (zg_app zg_j163_X12_mostOf zg_nil))))))
theorem zi_j212_X12_flat : ∀ w ∈ wz_j212_X12_flat, w ∈ lw_tbl := zi_cons zw_1746 (zi_app (zi_cons zw_1656 (zi_cons zw_1657 (zi_cons zw_115 (zi_cons zw_1413 (zi_cons zw_1714 (zi_cons zw_1716 (zi_cons zw_72 (zi_cons zw_1723 (zi_cons zw_1725 (zi_cons zw_74 (zi_cons zw_1727 (zi_cons zw_1729 (zi_cons zw_75 zi_nil))))))))))))) (zi_app inX12 (zi_app zi_j145_X12_in (zi_app zi_j160_X12_isWindow (zi_app zi_j162_X12_leastOf (zi_app zi_j163_X12_mostOf zi_nil))))))
set_option maxHeartbeats 4000000 in
set_option maxRecDepth 100000 in
theorem j212_X12_flat (l : Launch) (D : va_G) (zt : Nat × Nat × Nat × (Nat → Nat) × (Nat → Nat)) (r : Nat → Nat) (g : Nat → ClassId) (I : Nat → Int32) (A : Nat → Nat → Int32) (L : Nat → Nat → Int64) (z1 : Int32) (hIv : IvM I A) : GM l D zt (tyM g) yX12_flat wz_j212_X12_flat ({ frames := 1, cells := 0, slots := 0, locals := 24 } : Room) [.ref (r 0), .int z1] (wM r g I A L) (fun v _ w' => ∃ y0 : Int32, v = some (.int y0) ∧ w' = wM r g I A L) 0 0 := by
  refine GM.of (cc := cX12_flat) (maxL := 4) (ret := (some .int)) (own := RX12) (lv := [(0, .ref (r 0)), (1, .int z1)]) (by decide) rfl rfl (Nat.le_of_ble_eq_true rfl) rfl (fun κ sz hk hR hN => ?_)
  have hin12 : ∀ w ∈ u_ws RX12 TX12 55, w ∈ wz_j212_X12_flat := fun w h => (List.mem_cons_of_mem _ (List.mem_append_right _ (List.mem_append_left _ h)))
  refine g_iload_n hk dX12_flat_0 rfl ?_
  refine g_iconst (v := 1) hk dX12_flat_1 (by decide) ?_
  refine g_sipush (v := 160) hk dX12_flat_2 (by decide) ?_
  have k26110 : (1 : Int32).toInt = 1 := rfl
  have k26111 : (160 : Int32).toInt = 160 := rfl
  refine g_callS (n := 3) hk (j145_X12_in l D zt r g I A L z1 1 160 hIv) (SP.same _) (fun _ h => h) (gi_S (List.mem_cons_of_mem _ (List.mem_append_left _ (List.mem_of_getElem? (i := 0) rfl))) (List.mem_cons_of_mem _ (List.mem_append_left _ (List.mem_of_getElem? (i := 1) rfl))) (List.mem_cons_of_mem _ (List.mem_append_left _ (List.mem_of_getElem? (i := 2) rfl))) (gi_sub (fun w h => (List.mem_cons_of_mem _ (List.mem_append_right _ (List.mem_append_right _ (List.mem_append_left _ h))))) zg_j145_X12_in)) rfl rfl rfl (by decide +kernel) ⟨Nat.le_of_ble_eq_true rfl, Nat.le_of_ble_eq_true rfl⟩ rfl rfl (Nat.le_of_ble_eq_true rfl) ⟨Nat.le_of_ble_eq_true rfl, Nat.le_of_ble_eq_true rfl⟩ dX12_flat_5 (fun v ty' w' hp hk' => ?_)
  rcases hp with ⟨c26112, rfl, rfl⟩ | ⟨c26114, c26115, rfl, rfl⟩
  · skip
    have b26117l := Int32.le_toInt z1
    have b26117h := Int32.toInt_lt z1
    show GW κ 4 0 0 (wM r g I A L) 8 [(0, .ref (r 0)), (1, .int z1)] [.int 0]
    refine g_if_ne (tgt := 13) (a := 0) hk dX12_flat_8 (by decide) rfl (fun z9 => absurd z9 (show ¬ ((0 : Int) ≠ (0 : Int)) from by decide)) (fun _ => ?_)
    refine g_iconst (v := (-1)) hk dX12_flat_11 (by decide) ?_
    exact g_iret hk hR rfl ⟨(-1), rfl, rfl⟩ dX12_flat_12
  · skip
    show GW κ 4 0 0 (wM r g I A L) 8 [(0, .ref (r 0)), (1, .int z1)] [.int 1]
    refine g_if_ne (tgt := 13) (a := 1) hk dX12_flat_8 (by decide) rfl (fun _ => ?_) (fun z9 => absurd (show (1 : Int) ≠ (0 : Int) from by decide) z9)
    refine g_iconst (v := 0) hk dX12_flat_13 (by decide) ?_
    refine g_istore_n (lv' := [(2, .int 0), (0, .ref (r 0)), (1, .int z1)]) hk dX12_flat_14 (by decide) rfl ?_
    refine g_iconst (v := 0) hk dX12_flat_15 (by decide) ?_
    refine g_istore_n (lv' := [(3, .int 0), (2, .int 0), (0, .ref (r 0)), (1, .int z1)]) hk dX12_flat_16 (by decide) rfl ?_
    have lp26227 : ∀ (n26228 : Nat) (x26118 : Int32) (x26119 : Int32), (0 ≤ x26118.toInt) → (x26118.toInt ≤ 160) → (161 - x26118.toInt < (n26228 : Int)) → (0 < n26228) → GW κ 4 0 0 (wM r g I A L) 17 [(3, .int x26118), (2, .int x26119), (0, .ref (r 0)), (1, .int z1)] [] := by
      intro n26228
      induction n26228 with
      | zero =>
        intro x26118 x26119 h26225 h26226 m26229 m26229z
        exact absurd m26229z (Nat.lt_irrefl 0)
      | succ n26228 ih26230 =>
        intro x26118 x26119 h26225 h26226 m26229 m26229z
        refine g_iload_n hk dX12_flat_17 rfl ?_
        refine g_aload_n hk dX12_flat_18 rfl ?_
        refine gM_r0_35 hk hin12 (List.mem_cons_of_mem _ (List.mem_append_left _ (List.mem_of_getElem? (i := 3) rfl))) dX12_flat_19 ?_
        refine g_iconst (v := 0) hk dX12_flat_22 (by decide) ?_
        refine lM_17 (v := (A 17 0)) hk (vp_in_iff.mpr ⟨by decide, by decide⟩) rfl dX12_flat_23 ?_
        have f26231 := IvM_s17_0 hIv
        refine g_icmp_ge (tgt := 60) (a := x26118.toInt) (b := (A 17 0).toInt) hk dX12_flat_24 (by decide) rfl rfl (fun c26232 => ?_) (fun c26232 => ?_)
        · skip
          refine g_iload_n hk dX12_flat_60 rfl ?_
          have b26233l := Int32.le_toInt x26119
          have b26233h := Int32.toInt_lt x26119
          exact g_iret hk hR rfl ⟨x26119, rfl, rfl⟩ dX12_flat_61
        · skip
          refine g_aload_n hk dX12_flat_27 rfl ?_
          refine g_iload_n hk dX12_flat_28 rfl ?_
          refine g_iload_n hk dX12_flat_29 rfl ?_
          refine g_callV (n := 2) hk (j160_X12_isWindow l D zt r g I A L x26118 z1 hIv) (SP.same _) (fun _ h => h) (gi_V (List.mem_cons_of_mem _ (List.mem_append_left _ (List.mem_of_getElem? (i := 4) rfl))) (List.mem_cons_of_mem _ (List.mem_append_left _ (List.mem_of_getElem? (i := 5) rfl))) (List.mem_cons_of_mem _ (List.mem_append_left _ (List.mem_of_getElem? (i := 6) rfl))) (List.mem_cons_of_mem _ (List.mem_append_left _ (List.mem_of_getElem? (i := 2) rfl))) (gi_sub (fun w h => (List.mem_cons_of_mem _ (List.mem_append_right _ (List.mem_append_right _ (List.mem_append_right _ (List.mem_append_left _ h)))))) zg_j160_X12_isWindow)) rfl rfl rfl (by decide +kernel) ⟨Nat.le_of_ble_eq_true rfl, Nat.le_of_ble_eq_true rfl⟩ 0 rfl rfl rfl rfl (Nat.le_of_ble_eq_true rfl) ⟨Nat.le_of_ble_eq_true rfl, Nat.le_of_ble_eq_true rfl⟩ dX12_flat_30 (fun v ty' w' hp hk' => ?_)
          rcases hp with ⟨rfl, rfl⟩ | ⟨c26235, c26236, c26237, c26238, c26239, c26240, c26241, rfl, rfl⟩
          · skip
            show GW κ 4 0 0 (wM r g I A L) 33 [(3, .int x26118), (2, .int x26119), (0, .ref (r 0)), (1, .int z1)] [.int 0]
            refine g_if_eq (tgt := 54) (a := 0) hk dX12_flat_33 (by decide) rfl (fun _ => ?_) (fun z9 => absurd (show (0 : Int) = (0 : Int) from by decide) z9)
            obtain ⟨y26243, ey26243⟩ : ∃ y : Int32, y = x26118 + Int32.ofInt 1 := ⟨_, rfl⟩
            have hy26243 : y26243.toInt = x26118.toInt + 1 := i32_add ey26243 rfl (by decide) (by omega) (by omega)
            refine g_iinc (v := y26243) (lv' := [(3, .int y26243), (2, .int x26119), (0, .ref (r 0)), (1, .int z1)]) hk 0 dX12_flat_54 rfl ey26243.symm (by decide) rfl ?_
            refine g_goto (tgt := 17) hk dX12_flat_57 (by decide) ?_
            have b26244l := Int32.le_toInt x26119
            have b26244h := Int32.toInt_lt x26119
            exact g_lv (List.forall_mem_cons.mpr ⟨List.mem_of_getElem? (i := 0) rfl, (List.forall_mem_cons.mpr ⟨List.mem_of_getElem? (i := 1) rfl, (List.forall_mem_cons.mpr ⟨List.mem_of_getElem? (i := 2) rfl, (List.forall_mem_cons.mpr ⟨List.mem_of_getElem? (i := 3) rfl, (fun _ h => absurd h List.not_mem_nil)⟩)⟩)⟩)⟩) (ih26230 y26243 x26119 (by omega) (by omega) (by omega) (by omega))
          · skip
            show GW κ 4 0 0 (wM r g I A L) 33 [(3, .int x26118), (2, .int x26119), (0, .ref (r 0)), (1, .int z1)] [.int 1]
            refine g_if_eq (tgt := 54) (a := 1) hk dX12_flat_33 (by decide) rfl (fun z9 => absurd z9 (show ¬ ((1 : Int) = (0 : Int)) from by decide)) (fun _ => ?_)
            refine g_aload_n hk dX12_flat_36 rfl ?_
            refine g_iload_n hk dX12_flat_37 rfl ?_
            refine g_iload_n hk dX12_flat_38 rfl ?_
            refine g_callV (n := 2) hk (j162_X12_leastOf l D zt r g I A L x26118 z1 hIv (by omega) (by omega) (by omega) (by omega) (by omega)) (SP.same _) (fun _ h => h) (gi_V (List.mem_cons_of_mem _ (List.mem_append_left _ (List.mem_of_getElem? (i := 7) rfl))) (List.mem_cons_of_mem _ (List.mem_append_left _ (List.mem_of_getElem? (i := 8) rfl))) (List.mem_cons_of_mem _ (List.mem_append_left _ (List.mem_of_getElem? (i := 9) rfl))) (List.mem_cons_of_mem _ (List.mem_append_left _ (List.mem_of_getElem? (i := 2) rfl))) (gi_sub (fun w h => (List.mem_cons_of_mem _ (List.mem_append_right _ (List.mem_append_right _ (List.mem_append_right _ (List.mem_append_right _ (List.mem_append_left _ h))))))) zg_j162_X12_leastOf)) rfl rfl rfl (by decide +kernel) ⟨Nat.le_of_ble_eq_true rfl, Nat.le_of_ble_eq_true rfl⟩ 0 rfl rfl rfl rfl (Nat.le_of_ble_eq_true rfl) ⟨Nat.le_of_ble_eq_true rfl, Nat.le_of_ble_eq_true rfl⟩ dX12_flat_39 (fun v ty' w' hp hk' => ?_)
            obtain ⟨y26245, rfl, rfl⟩ := hp
            show GW κ 4 0 0 (wM r g I A L) 42 [(3, .int x26118), (2, .int x26119), (0, .ref (r 0)), (1, .int z1)] [.int y26245]
            refine g_aload_n hk dX12_flat_42 rfl ?_
            refine g_iload_n hk dX12_flat_43 rfl ?_
            refine g_iload_n hk dX12_flat_44 rfl ?_
            refine g_callV (n := 2) hk (j163_X12_mostOf l D zt r g I A L x26118 z1 hIv (by omega) (by omega) (by omega) (by omega) (by omega)) (SP.same _) (fun _ h => h) (gi_V (List.mem_cons_of_mem _ (List.mem_append_left _ (List.mem_of_getElem? (i := 10) rfl))) (List.mem_cons_of_mem _ (List.mem_append_left _ (List.mem_of_getElem? (i := 11) rfl))) (List.mem_cons_of_mem _ (List.mem_append_left _ (List.mem_of_getElem? (i := 12) rfl))) (List.mem_cons_of_mem _ (List.mem_append_left _ (List.mem_of_getElem? (i := 2) rfl))) (gi_sub (fun w h => (List.mem_cons_of_mem _ (List.mem_append_right _ (List.mem_append_right _ (List.mem_append_right _ (List.mem_append_right _ (List.mem_append_right _ (List.mem_append_left _ h)))))))) zg_j163_X12_mostOf)) rfl rfl rfl (by decide +kernel) ⟨Nat.le_of_ble_eq_true rfl, Nat.le_of_ble_eq_true rfl⟩ 0 rfl rfl rfl rfl (Nat.le_of_ble_eq_true rfl) ⟨Nat.le_of_ble_eq_true rfl, Nat.le_of_ble_eq_true rfl⟩ dX12_flat_45 (fun v ty' w' hp hk' => ?_)
            obtain ⟨y26246, rfl, rfl⟩ := hp
            show GW κ 4 0 0 (wM r g I A L) 48 [(3, .int x26118), (2, .int x26119), (0, .ref (r 0)), (1, .int z1)] [.int y26246, .int y26245]
            have b26247l := Int32.le_toInt y26245
            have b26247h := Int32.toInt_lt y26245
            have b26248l := Int32.le_toInt y26246
            have b26248h := Int32.toInt_lt y26246
            refine g_icmp_ne (tgt := 54) (a := y26245.toInt) (b := y26246.toInt) hk dX12_flat_48 (by decide) rfl rfl (fun c26249 => ?_) (fun c26249 => ?_)
            · skip
              obtain ⟨y26250, ey26250⟩ : ∃ y : Int32, y = x26118 + Int32.ofInt 1 := ⟨_, rfl⟩
              have hy26250 : y26250.toInt = x26118.toInt + 1 := i32_add ey26250 rfl (by decide) (by omega) (by omega)
              refine g_iinc (v := y26250) (lv' := [(3, .int y26250), (2, .int x26119), (0, .ref (r 0)), (1, .int z1)]) hk 0 dX12_flat_54 rfl ey26250.symm (by decide) rfl ?_
              refine g_goto (tgt := 17) hk dX12_flat_57 (by decide) ?_
              have b26251l := Int32.le_toInt x26119
              have b26251h := Int32.toInt_lt x26119
              exact g_lv (List.forall_mem_cons.mpr ⟨List.mem_of_getElem? (i := 0) rfl, (List.forall_mem_cons.mpr ⟨List.mem_of_getElem? (i := 1) rfl, (List.forall_mem_cons.mpr ⟨List.mem_of_getElem? (i := 2) rfl, (List.forall_mem_cons.mpr ⟨List.mem_of_getElem? (i := 3) rfl, (fun _ h => absurd h List.not_mem_nil)⟩)⟩)⟩)⟩) (ih26230 y26250 x26119 (by omega) (by omega) (by omega) (by omega))
            · skip
              have b26252l := Int32.le_toInt x26119
              have b26252h := Int32.toInt_lt x26119
              obtain ⟨y26253, ey26253⟩ : ∃ y : Int32, y = x26119 + Int32.ofInt 1 := ⟨_, rfl⟩
              refine g_iinc (v := y26253) (lv' := [(2, .int y26253), (3, .int x26118), (0, .ref (r 0)), (1, .int z1)]) hk 1 dX12_flat_51 rfl ey26253.symm (by decide) rfl ?_
              obtain ⟨y26254, ey26254⟩ : ∃ y : Int32, y = x26118 + Int32.ofInt 1 := ⟨_, rfl⟩
              have hy26254 : y26254.toInt = x26118.toInt + 1 := i32_add ey26254 rfl (by decide) (by omega) (by omega)
              refine g_iinc (v := y26254) (lv' := [(3, .int y26254), (2, .int y26253), (0, .ref (r 0)), (1, .int z1)]) hk 1 dX12_flat_54 rfl ey26254.symm (by decide) rfl ?_
              refine g_goto (tgt := 17) hk dX12_flat_57 (by decide) ?_
              have b26255l := Int32.le_toInt y26253
              have b26255h := Int32.toInt_lt y26253
              exact g_lv (List.forall_mem_cons.mpr ⟨List.mem_of_getElem? (i := 0) rfl, (List.forall_mem_cons.mpr ⟨List.mem_of_getElem? (i := 1) rfl, (List.forall_mem_cons.mpr ⟨List.mem_of_getElem? (i := 2) rfl, (List.forall_mem_cons.mpr ⟨List.mem_of_getElem? (i := 3) rfl, (fun _ h => absurd h List.not_mem_nil)⟩)⟩)⟩)⟩) (ih26230 y26254 y26253 (by omega) (by omega) (by omega) (by omega))
    have k26256 : (0 : Int32).toInt = 0 := rfl
    obtain ⟨n26257, n26257a, n26257b⟩ : ∃ n : Nat, 161 - (0 : Int32).toInt < (n : Int) ∧ 0 < n := ⟨((161 - (0 : Int32).toInt : Int)).toNat + 1, by omega, by omega⟩
    exact lp26227 n26257 0 0 (by omega) (by omega) n26257a n26257b
def wo_j213_X12_whole : List Cond := [Cond.methodLink RX12 244 yX12_in, Cond.static yX12_in, Cond.initialized RX12, Cond.fieldLink RX12 70 "WarpDeskModel" "now" "[I", Cond.methodLink RX12 320 yX12_isThere, Cond.instanceMethod yX12_isThere, Cond.selects RX12 yX12_isThere yX12_isThere]
def wz_j213_X12_whole : List Cond := .code yX12_whole cX12_whole 6 (some .int) :: (wo_j213_X12_whole ++ (wsX120 ++ (wz_j145_X12_in ++ (wz_j143_X12_isThere ++ ([] : List Cond)))))
theorem zg_j213_X12_whole : ∀ w ∈ wz_j213_X12_whole, goodWord w = true := zg_cons rfl (zg_app (by decide +kernel) (zg_app zgU_wsX120 (zg_app zg_j145_X12_in (zg_app zg_j143_X12_isThere zg_nil))))
theorem zi_j213_X12_whole : ∀ w ∈ wz_j213_X12_whole, w ∈ lw_tbl := zi_cons zw_1750 (zi_app (zi_cons zw_1656 (zi_cons zw_1657 (zi_cons zw_115 (zi_cons zw_1413 (zi_cons zw_1648 (zi_cons zw_1650 (zi_cons zw_65 zi_nil))))))) (zi_app inX12 (zi_app zi_j145_X12_in (zi_app zi_j143_X12_isThere zi_nil))))
set_option maxHeartbeats 4000000 in
set_option maxRecDepth 100000 in
theorem j213_X12_whole (l : Launch) (D : va_G) (zt : Nat × Nat × Nat × (Nat → Nat) × (Nat → Nat)) (r : Nat → Nat) (g : Nat → ClassId) (I : Nat → Int32) (A : Nat → Nat → Int32) (L : Nat → Nat → Int64) (z1 : Int32) (hIv : IvM I A) : GM l D zt (tyM g) yX12_whole wz_j213_X12_whole ({ frames := 3, cells := 0, slots := 0, locals := 64 } : Room) [.ref (r 0), .int z1] (wM r g I A L) (fun v _ w' => ∃ y0 : Int32, ((-2) ≤ y0.toInt) ∧ (y0.toInt ≤ 160) ∧ v = some (.int y0) ∧ w' = wM r g I A L) 0 0 := by
  refine GM.of (cc := cX12_whole) (maxL := 6) (ret := (some .int)) (own := RX12) (lv := [(0, .ref (r 0)), (1, .int z1)]) (by decide) rfl rfl (Nat.le_of_ble_eq_true rfl) rfl (fun κ sz hk hR hN => ?_)
  have hin12 : ∀ w ∈ u_ws RX12 TX12 55, w ∈ wz_j213_X12_whole := fun w h => (List.mem_cons_of_mem _ (List.mem_append_right _ (List.mem_append_left _ h)))
  refine g_iload_n hk dX12_whole_0 rfl ?_
  refine g_iconst (v := 0) hk dX12_whole_1 (by decide) ?_
  refine g_iconst (v := 1) hk dX12_whole_2 (by decide) ?_
  have k26258 : (0 : Int32).toInt = 0 := rfl
  have k26259 : (1 : Int32).toInt = 1 := rfl
  refine g_callS (n := 3) hk (j145_X12_in l D zt r g I A L z1 0 1 hIv) (SP.same _) (fun _ h => h) (gi_S (List.mem_cons_of_mem _ (List.mem_append_left _ (List.mem_of_getElem? (i := 0) rfl))) (List.mem_cons_of_mem _ (List.mem_append_left _ (List.mem_of_getElem? (i := 1) rfl))) (List.mem_cons_of_mem _ (List.mem_append_left _ (List.mem_of_getElem? (i := 2) rfl))) (gi_sub (fun w h => (List.mem_cons_of_mem _ (List.mem_append_right _ (List.mem_append_right _ (List.mem_append_left _ h))))) zg_j145_X12_in)) rfl rfl rfl (by decide +kernel) ⟨Nat.le_of_ble_eq_true rfl, Nat.le_of_ble_eq_true rfl⟩ rfl rfl (Nat.le_of_ble_eq_true rfl) ⟨Nat.le_of_ble_eq_true rfl, Nat.le_of_ble_eq_true rfl⟩ dX12_whole_3 (fun v ty' w' hp hk' => ?_)
  rcases hp with ⟨c26260, rfl, rfl⟩ | ⟨c26262, c26263, rfl, rfl⟩
  · skip
    have b26265l := Int32.le_toInt z1
    have b26265h := Int32.toInt_lt z1
    show GW κ 6 0 0 (wM r g I A L) 6 [(0, .ref (r 0)), (1, .int z1)] [.int 0]
    refine g_if_ne (tgt := 11) (a := 0) hk dX12_whole_6 (by decide) rfl (fun z9 => absurd z9 (show ¬ ((0 : Int) ≠ (0 : Int)) from by decide)) (fun _ => ?_)
    refine g_iconst (v := (-1)) hk dX12_whole_9 (by decide) ?_
    exact g_iret hk hR rfl ⟨(-1), (by decide), (by decide), rfl, rfl⟩ dX12_whole_10
  · skip
    show GW κ 6 0 0 (wM r g I A L) 6 [(0, .ref (r 0)), (1, .int z1)] [.int 1]
    refine g_if_ne (tgt := 11) (a := 1) hk dX12_whole_6 (by decide) rfl (fun _ => ?_) (fun z9 => absurd (show (1 : Int) ≠ (0 : Int) from by decide) z9)
    refine g_bipush (v := (-2)) hk dX12_whole_11 (by decide) ?_
    refine g_istore_n (lv' := [(2, .int (-2)), (0, .ref (r 0)), (1, .int z1)]) hk dX12_whole_13 (by decide) rfl ?_
    refine g_bipush (v := (-2)) hk dX12_whole_14 (by decide) ?_
    refine g_istore_n (lv' := [(3, .int (-2)), (2, .int (-2)), (0, .ref (r 0)), (1, .int z1)]) hk dX12_whole_16 (by decide) rfl ?_
    refine g_iconst (v := 0) hk dX12_whole_17 (by decide) ?_
    refine g_istore (lv' := [(4, .int 0), (3, .int (-2)), (2, .int (-2)), (0, .ref (r 0)), (1, .int z1)]) hk dX12_whole_18 (by decide) rfl ?_
    have lp26502 : ∀ (n26503 : Nat) (x26266 : Int32) (x26267 : Int32) (x26268 : Int32), (0 ≤ x26266.toInt) → (x26266.toInt ≤ 160) → ((-2) ≤ x26267.toInt) → (x26267.toInt ≤ 160) → ((-2) ≤ x26268.toInt) → (x26268.toInt ≤ 159) → (161 - x26266.toInt < (n26503 : Int)) → (0 < n26503) → GW κ 6 0 0 (wM r g I A L) 20 [(4, .int x26266), (3, .int x26267), (2, .int x26268), (0, .ref (r 0)), (1, .int z1)] [] := by
      intro n26503
      induction n26503 with
      | zero =>
        intro x26266 x26267 x26268 h26496 h26497 h26498 h26499 h26500 h26501 m26504 m26504z
        exact absurd m26504z (Nat.lt_irrefl 0)
      | succ n26503 ih26505 =>
        intro x26266 x26267 x26268 h26496 h26497 h26498 h26499 h26500 h26501 m26504 m26504z
        refine g_iload hk dX12_whole_20 rfl ?_
        refine g_aload_n hk dX12_whole_22 rfl ?_
        refine gM_r0_35 hk hin12 (List.mem_cons_of_mem _ (List.mem_append_left _ (List.mem_of_getElem? (i := 3) rfl))) dX12_whole_23 ?_
        refine g_iconst (v := 0) hk dX12_whole_26 (by decide) ?_
        refine lM_17 (v := (A 17 0)) hk (vp_in_iff.mpr ⟨by decide, by decide⟩) rfl dX12_whole_27 ?_
        have f26506 := IvM_s17_0 hIv
        refine g_icmp_ge (tgt := 78) (a := x26266.toInt) (b := (A 17 0).toInt) hk dX12_whole_28 (by decide) rfl rfl (fun c26507 => ?_) (fun c26507 => ?_)
        · skip
          refine g_iload_n hk dX12_whole_78 rfl ?_
          refine g_if_ne (tgt := 86) (a := z1.toInt) hk dX12_whole_79 (by decide) rfl (fun c26508 => ?_) (fun c26508 => ?_)
          · skip
            refine g_iload_n hk dX12_whole_86 rfl ?_
            exact g_iret hk hR rfl ⟨x26267, (by omega), (by omega), rfl, rfl⟩ dX12_whole_87
          · skip
            refine g_iload_n hk dX12_whole_82 rfl ?_
            refine g_goto (tgt := 87) hk dX12_whole_83 (by decide) ?_
            exact g_iret hk hR rfl ⟨x26268, (by omega), (by omega), rfl, rfl⟩ dX12_whole_87
        · skip
          refine g_iconst (v := 0) hk dX12_whole_31 (by decide) ?_
          refine g_istore (lv' := [(5, .int 0), (4, .int x26266), (3, .int x26267), (2, .int x26268), (0, .ref (r 0)), (1, .int z1)]) hk dX12_whole_32 (by decide) rfl ?_
          have lp26533 : ∀ (n26534 : Nat) (x26509 : Int32), (0 ≤ x26509.toInt) → (x26509.toInt ≤ 160) → (x26266.toInt + x26509.toInt ≤ 160) → (161 - x26509.toInt < (n26534 : Int)) → (0 < n26534) → GW κ 6 0 0 (wM r g I A L) 34 [(5, .int x26509), (4, .int x26266), (3, .int x26267), (2, .int x26268), (0, .ref (r 0)), (1, .int z1)] [] := by
            intro n26534
            induction n26534 with
            | zero =>
              intro x26509 h26530 h26531 h26532 m26535 m26535z
              exact absurd m26535z (Nat.lt_irrefl 0)
            | succ n26534 ih26536 =>
              intro x26509 h26530 h26531 h26532 m26535 m26535z
              refine g_aload_n hk dX12_whole_34 rfl ?_
              refine g_iload hk dX12_whole_35 rfl ?_
              refine g_iload hk dX12_whole_37 rfl ?_
              refine g_iadd hk dX12_whole_39 ?_
              refine g_topi (fun y26537 ey26537 => ?_)
              have hy26537 : y26537.toInt = x26266.toInt + x26509.toInt := i32_add ey26537 rfl rfl (by omega) (by omega)
              refine g_callV (n := 1) hk (j143_X12_isThere l D zt r g I A L y26537 hIv) (SP.same _) (fun _ h => h) (gi_V (List.mem_cons_of_mem _ (List.mem_append_left _ (List.mem_of_getElem? (i := 4) rfl))) (List.mem_cons_of_mem _ (List.mem_append_left _ (List.mem_of_getElem? (i := 5) rfl))) (List.mem_cons_of_mem _ (List.mem_append_left _ (List.mem_of_getElem? (i := 6) rfl))) (List.mem_cons_of_mem _ (List.mem_append_left _ (List.mem_of_getElem? (i := 2) rfl))) (gi_sub (fun w h => (List.mem_cons_of_mem _ (List.mem_append_right _ (List.mem_append_right _ (List.mem_append_right _ (List.mem_append_left _ h)))))) zg_j143_X12_isThere)) rfl rfl rfl (by decide +kernel) ⟨Nat.le_of_ble_eq_true rfl, Nat.le_of_ble_eq_true rfl⟩ 0 rfl rfl rfl rfl (Nat.le_of_ble_eq_true rfl) ⟨Nat.le_of_ble_eq_true rfl, Nat.le_of_ble_eq_true rfl⟩ dX12_whole_40 (fun v ty' w' hp hk' => ?_)
              rcases hp with ⟨rfl, rfl⟩ | ⟨c26539, c26540, c26541, c26542, c26543, rfl, rfl⟩
              · skip
                show GW κ 6 0 0 (wM r g I A L) 43 [(5, .int x26509), (4, .int x26266), (3, .int x26267), (2, .int x26268), (0, .ref (r 0)), (1, .int z1)] [.int 0]
                refine g_if_eq (tgt := 52) (a := 0) hk dX12_whole_43 (by decide) rfl (fun _ => ?_) (fun z9 => absurd (show (0 : Int) = (0 : Int) from by decide) z9)
                refine g_iload hk dX12_whole_52 rfl ?_
                refine g_if_eq (tgt := 72) (a := x26509.toInt) hk dX12_whole_54 (by decide) rfl (fun c26545 => ?_) (fun c26545 => ?_)
                · skip
                  obtain ⟨y26546, ey26546⟩ : ∃ y : Int32, y = x26266 + Int32.ofInt 1 := ⟨_, rfl⟩
                  have hy26546 : y26546.toInt = x26266.toInt + 1 := i32_add ey26546 rfl (by decide) (by omega) (by omega)
                  refine g_iinc (v := y26546) (lv' := [(4, .int y26546), (5, .int x26509), (3, .int x26267), (2, .int x26268), (0, .ref (r 0)), (1, .int z1)]) hk 1 dX12_whole_72 rfl ey26546.symm (by decide) rfl ?_
                  refine g_goto (tgt := 20) hk dX12_whole_75 (by decide) ?_
                  exact g_lv (List.forall_mem_cons.mpr ⟨List.mem_of_getElem? (i := 0) rfl, (List.forall_mem_cons.mpr ⟨List.mem_of_getElem? (i := 2) rfl, (List.forall_mem_cons.mpr ⟨List.mem_of_getElem? (i := 3) rfl, (List.forall_mem_cons.mpr ⟨List.mem_of_getElem? (i := 4) rfl, (List.forall_mem_cons.mpr ⟨List.mem_of_getElem? (i := 5) rfl, (fun _ h => absurd h List.not_mem_nil)⟩)⟩)⟩)⟩)⟩) (ih26505 y26546 x26267 x26268 (by omega) (by omega) (by omega) (by omega) (by omega) (by omega) (by omega) (by omega))
                · skip
                  refine g_iload hk dX12_whole_57 rfl ?_
                  refine g_iload_n hk dX12_whole_59 rfl ?_
                  refine g_icmp_gt (tgt := 66) (a := x26509.toInt) (b := x26267.toInt) hk dX12_whole_60 (by decide) rfl rfl (fun c26547 => ?_) (fun c26547 => ?_)
                  · skip
                    refine g_iload hk dX12_whole_66 rfl ?_
                    refine g_istore_n (lv' := [(2, .int x26266), (5, .int x26509), (4, .int x26266), (3, .int x26267), (0, .ref (r 0)), (1, .int z1)]) hk dX12_whole_68 (by decide) rfl ?_
                    refine g_iload hk dX12_whole_69 rfl ?_
                    refine g_istore_n (lv' := [(3, .int x26509), (2, .int x26266), (5, .int x26509), (4, .int x26266), (0, .ref (r 0)), (1, .int z1)]) hk dX12_whole_71 (by decide) rfl ?_
                    obtain ⟨y26548, ey26548⟩ : ∃ y : Int32, y = x26266 + Int32.ofInt 1 := ⟨_, rfl⟩
                    have hy26548 : y26548.toInt = x26266.toInt + 1 := i32_add ey26548 rfl (by decide) (by omega) (by omega)
                    refine g_iinc (v := y26548) (lv' := [(4, .int y26548), (3, .int x26509), (2, .int x26266), (5, .int x26509), (0, .ref (r 0)), (1, .int z1)]) hk 3 dX12_whole_72 rfl ey26548.symm (by decide) rfl ?_
                    refine g_goto (tgt := 20) hk dX12_whole_75 (by decide) ?_
                    exact g_lv (List.forall_mem_cons.mpr ⟨List.mem_of_getElem? (i := 0) rfl, (List.forall_mem_cons.mpr ⟨List.mem_of_getElem? (i := 1) rfl, (List.forall_mem_cons.mpr ⟨List.mem_of_getElem? (i := 2) rfl, (List.forall_mem_cons.mpr ⟨List.mem_of_getElem? (i := 4) rfl, (List.forall_mem_cons.mpr ⟨List.mem_of_getElem? (i := 5) rfl, (fun _ h => absurd h List.not_mem_nil)⟩)⟩)⟩)⟩)⟩) (ih26505 y26548 x26509 x26266 (by omega) (by omega) (by omega) (by omega) (by omega) (by omega) (by omega) (by omega))
                  · skip
                    refine g_goto (tgt := 72) hk dX12_whole_63 (by decide) ?_
                    obtain ⟨y26549, ey26549⟩ : ∃ y : Int32, y = x26266 + Int32.ofInt 1 := ⟨_, rfl⟩
                    have hy26549 : y26549.toInt = x26266.toInt + 1 := i32_add ey26549 rfl (by decide) (by omega) (by omega)
                    refine g_iinc (v := y26549) (lv' := [(4, .int y26549), (5, .int x26509), (3, .int x26267), (2, .int x26268), (0, .ref (r 0)), (1, .int z1)]) hk 1 dX12_whole_72 rfl ey26549.symm (by decide) rfl ?_
                    refine g_goto (tgt := 20) hk dX12_whole_75 (by decide) ?_
                    exact g_lv (List.forall_mem_cons.mpr ⟨List.mem_of_getElem? (i := 0) rfl, (List.forall_mem_cons.mpr ⟨List.mem_of_getElem? (i := 2) rfl, (List.forall_mem_cons.mpr ⟨List.mem_of_getElem? (i := 3) rfl, (List.forall_mem_cons.mpr ⟨List.mem_of_getElem? (i := 4) rfl, (List.forall_mem_cons.mpr ⟨List.mem_of_getElem? (i := 5) rfl, (fun _ h => absurd h List.not_mem_nil)⟩)⟩)⟩)⟩)⟩) (ih26505 y26549 x26267 x26268 (by omega) (by omega) (by omega) (by omega) (by omega) (by omega) (by omega) (by omega))
              · skip
                show GW κ 6 0 0 (wM r g I A L) 43 [(5, .int x26509), (4, .int x26266), (3, .int x26267), (2, .int x26268), (0, .ref (r 0)), (1, .int z1)] [.int 1]
                refine g_if_eq (tgt := 52) (a := 1) hk dX12_whole_43 (by decide) rfl (fun z9 => absurd z9 (show ¬ ((1 : Int) = (0 : Int)) from by decide)) (fun _ => ?_)
                obtain ⟨y26550, ey26550⟩ : ∃ y : Int32, y = x26509 + Int32.ofInt 1 := ⟨_, rfl⟩
                have hy26550 : y26550.toInt = x26509.toInt + 1 := i32_add ey26550 rfl (by decide) (by omega) (by omega)
                refine g_iinc (v := y26550) (lv' := [(5, .int y26550), (4, .int x26266), (3, .int x26267), (2, .int x26268), (0, .ref (r 0)), (1, .int z1)]) hk 0 dX12_whole_46 rfl ey26550.symm (by decide) rfl ?_
                refine g_goto (tgt := 34) hk dX12_whole_49 (by decide) ?_
                exact g_lv (List.forall_mem_cons.mpr ⟨List.mem_of_getElem? (i := 0) rfl, (List.forall_mem_cons.mpr ⟨List.mem_of_getElem? (i := 1) rfl, (List.forall_mem_cons.mpr ⟨List.mem_of_getElem? (i := 2) rfl, (List.forall_mem_cons.mpr ⟨List.mem_of_getElem? (i := 3) rfl, (List.forall_mem_cons.mpr ⟨List.mem_of_getElem? (i := 4) rfl, (List.forall_mem_cons.mpr ⟨List.mem_of_getElem? (i := 5) rfl, (fun _ h => absurd h List.not_mem_nil)⟩)⟩)⟩)⟩)⟩)⟩) (ih26536 y26550 (by omega) (by omega) (by omega) (by omega) (by omega))
          obtain ⟨n26551, n26551a, n26551b⟩ : ∃ n : Nat, 161 - (0 : Int32).toInt < (n : Int) ∧ 0 < n := ⟨((161 - (0 : Int32).toInt : Int)).toNat + 1, by omega, by omega⟩
          exact lp26533 n26551 0 (by omega) (by omega) (by omega) n26551a n26551b
    have k26552 : ((-2) : Int32).toInt = (-2) := rfl
    obtain ⟨n26553, n26553a, n26553b⟩ : ∃ n : Nat, 161 - (0 : Int32).toInt < (n : Int) ∧ 0 < n := ⟨((161 - (0 : Int32).toInt : Int)).toNat + 1, by omega, by omega⟩
    exact lp26502 n26553 0 (-2) (-2) (by omega) (by omega) (by omega) (by omega) (by omega) (by omega) n26553a n26553b
def wo_j214_X12_fired : List Cond := [Cond.methodLink RX12 323 yX12_copies, Cond.instanceMethod yX12_copies, Cond.selects RX12 yX12_copies yX12_copies, Cond.initialized RX12, Cond.fieldLink RX12 49 "WarpDeskModel" "queries" "[I", Cond.fieldLink RX12 197 "WarpDeskModel" "live" "I", Cond.fieldLink RX12 70 "WarpDeskModel" "now" "[I", Cond.methodLink RX12 254 yX12_wideOf, Cond.instanceMethod yX12_wideOf, Cond.selects RX12 yX12_wideOf yX12_wideOf, Cond.methodLink RX12 342 yX12_isOf, Cond.instanceMethod yX12_isOf, Cond.selects RX12 yX12_isOf yX12_isOf, Cond.methodLink RX12 345 yX12_distanceOf, Cond.instanceMethod yX12_distanceOf, Cond.selects RX12 yX12_distanceOf yX12_distanceOf]
def wz_j214_X12_fired : List Cond := .code yX12_fired cX12_fired 5 (some .int) :: (wo_j214_X12_fired ++ (wsX120 ++ (wz_j151_X12_copies ++ (wz_j148_X12_wideOf ++ (wz_j168_X12_isOf ++ (wz_j169_X12_distanceOf ++ ([] : List Cond)))))))
theorem zg_j214_X12_fired : ∀ w ∈ wz_j214_X12_fired, goodWord w = true := zg_cons rfl (zg_app (by decide +kernel) (zg_app zgU_wsX120 (zg_app zg_j151_X12_copies (zg_app zg_j148_X12_wideOf (zg_app zg_j168_X12_isOf (zg_app zg_j169_X12_distanceOf zg_nil))))))
theorem zi_j214_X12_fired : ∀ w ∈ wz_j214_X12_fired, w ∈ lw_tbl := zi_cons zw_1910 (zi_app (zi_cons zw_1679 (zi_cons zw_1681 (zi_cons zw_70 (zi_cons zw_115 (zi_cons zw_1406 (zi_cons zw_1400 (zi_cons zw_1413 (zi_cons zw_1667 (zi_cons zw_1669 (zi_cons zw_68 (zi_cons zw_1755 (zi_cons zw_1757 (zi_cons zw_78 (zi_cons zw_1759 (zi_cons zw_1761 (zi_cons zw_79 zi_nil)))))))))))))))) (zi_app inX12 (zi_app zi_j151_X12_copies (zi_app zi_j148_X12_wideOf (zi_app zi_j168_X12_isOf (zi_app zi_j169_X12_distanceOf zi_nil))))))
set_option maxHeartbeats 4000000 in
set_option maxRecDepth 100000 in
theorem j214_X12_fired (l : Launch) (D : va_G) (zt : Nat × Nat × Nat × (Nat → Nat) × (Nat → Nat)) (r : Nat → Nat) (g : Nat → ClassId) (I : Nat → Int32) (A : Nat → Nat → Int32) (L : Nat → Nat → Int64) (z1 : Int32) (hIv : IvM I A) : GM l D zt (tyM g) yX12_fired wz_j214_X12_fired ({ frames := 6, cells := 0, slots := 0, locals := 134 } : Room) [.ref (r 0), .int z1] (wM r g I A L) (fun v _ w' => ∃ (I' : Nat → Int32) (A' : Nat → Nat → Int32) (L' : Nat → Nat → Int64), Md [18, 19, 20] I I' ∧ Md [18, 19, 20, 21] A A' ∧ IvM I' A' ∧ ∃ y0 : Int32, v = some (.int y0) ∧ w' = wM r g I' A' L') 0 0 := by
  refine GM.of (cc := cX12_fired) (maxL := 5) (ret := (some .int)) (own := RX12) (lv := [(0, .ref (r 0)), (1, .int z1)]) (by decide) rfl rfl (Nat.le_of_ble_eq_true rfl) rfl (fun κ sz hk hR hN => ?_)
  have hin12 : ∀ w ∈ u_ws RX12 TX12 55, w ∈ wz_j214_X12_fired := fun w h => (List.mem_cons_of_mem _ (List.mem_append_right _ (List.mem_append_left _ h)))
  refine g_iload_n hk dX12_fired_0 rfl ?_
  have b26554l := Int32.le_toInt z1
  have b26554h := Int32.toInt_lt z1
  refine g_if_ge (tgt := 6) (a := z1.toInt) hk dX12_fired_1 (by decide) rfl (fun c26555 => ?_) (fun c26555 => ?_)
  · skip
    refine g_aload_n hk dX12_fired_6 rfl ?_
    refine g_callV (n := 0) hk (j151_X12_copies l D zt r g I A L  hIv) (SP.same _) (fun _ h => h) (gi_V (List.mem_cons_of_mem _ (List.mem_append_left _ (List.mem_of_getElem? (i := 0) rfl))) (List.mem_cons_of_mem _ (List.mem_append_left _ (List.mem_of_getElem? (i := 1) rfl))) (List.mem_cons_of_mem _ (List.mem_append_left _ (List.mem_of_getElem? (i := 2) rfl))) (List.mem_cons_of_mem _ (List.mem_append_left _ (List.mem_of_getElem? (i := 3) rfl))) (gi_sub (fun w h => (List.mem_cons_of_mem _ (List.mem_append_right _ (List.mem_append_right _ (List.mem_append_left _ h))))) zg_j151_X12_copies)) rfl rfl rfl (by decide +kernel) ⟨Nat.le_of_ble_eq_true rfl, Nat.le_of_ble_eq_true rfl⟩ 0 rfl rfl rfl rfl (Nat.le_of_ble_eq_true rfl) ⟨Nat.le_of_ble_eq_true rfl, Nat.le_of_ble_eq_true rfl⟩ dX12_fired_7 (fun v ty' w' hp hk' => ?_)
    obtain ⟨I26557, A26557, L26557, hI26557, hA26557, hV26557, r26558, r26559, rfl, rfl⟩ := hp
    have f26560 := IvM_s17_0 hIv
    have f26561 := IvM_s17_164 hIv
    show GW κ 5 0 0 (wM r g I26557 A26557 L26557) 10 [(0, .ref (r 0)), (1, .int z1)] []
    refine g_iconst (v := 0) hk dX12_fired_10 (by decide) ?_
    refine g_istore_n (lv' := [(2, .int 0), (0, .ref (r 0)), (1, .int z1)]) hk dX12_fired_11 (by decide) rfl ?_
    refine g_iconst (v := 0) hk dX12_fired_12 (by decide) ?_
    refine g_istore_n (lv' := [(3, .int 0), (2, .int 0), (0, .ref (r 0)), (1, .int z1)]) hk dX12_fired_13 (by decide) rfl ?_
    have lp26787 : ∀ (n26788 : Nat) (x26562 : Int32) (x26563 : Int32) (I26566 : Nat → Int32) (A26566 : Nat → Nat → Int32) (L26566 : Nat → Nat → Int64), (Md [18, 19, 20] I26557 I26566) → (Md [19, 20, 21] A26557 A26566) → (IvM I26566 A26566) → (0 ≤ x26562.toInt) → (x26562.toInt ≤ 5) → (6 - x26562.toInt < (n26788 : Int)) → (0 < n26788) → GW κ 5 0 0 (wM r g I26566 A26566 L26566) 14 [(3, .int x26562), (2, .int x26563), (0, .ref (r 0)), (1, .int z1)] [] := by
      intro n26788
      induction n26788 with
      | zero =>
        intro x26562 x26563 I26566 A26566 L26566 hI26566 hA26566 hV26566 h26785 h26786 m26789 m26789z
        exact absurd m26789z (Nat.lt_irrefl 0)
      | succ n26788 ih26790 =>
        intro x26562 x26563 I26566 A26566 L26566 hI26566 hA26566 hV26566 h26785 h26786 m26789 m26789z
        refine g_iload_n hk dX12_fired_14 rfl ?_
        refine g_aload_n hk dX12_fired_15 rfl ?_
        refine gM_r0_28 hk hin12 (List.mem_cons_of_mem _ (List.mem_append_left _ (List.mem_of_getElem? (i := 4) rfl))) dX12_fired_16 ?_
        refine g_aload_n hk dX12_fired_19 rfl ?_
        refine gM_i15 (v := (I 15)) hk hin12 (List.mem_cons_of_mem _ (List.mem_append_left _ (List.mem_of_getElem? (i := 5) rfl))) dX12_fired_20 ((hI26566 15 rfl).trans (hI26557 15 rfl)) ?_
        have f26791 := IvM_f15 hIv
        by_cases c26792 : (I 15).toInt = 0
        · have ec26792 : (I 15) = 0 := Int32.toInt_inj.mp c26792
          rw [ec26792]
          show GW κ 5 0 0 (wM r g I26566 A26566 L26566) 23 [(3, .int x26562), (2, .int x26563), (0, .ref (r 0)), (1, .int z1)] [.int 0, .ref (r 11), .int x26562]
          refine lM_10 (v := (A 10 0)) hk (vp_in_iff.mpr ⟨by decide, by decide⟩) ((congrFun (hA26566 10 rfl) _).trans (congrFun (hA26557 10 rfl) _)) dX12_fired_23 ?_
          have f26793 := IvM_s10_0 hIv
          refine g_icmp_ge (tgt := 74) (a := x26562.toInt) (b := (A 10 0).toInt) hk dX12_fired_24 (by decide) rfl rfl (fun c26794 => ?_) (fun c26794 => ?_)
          · skip
            refine g_iload_n hk dX12_fired_74 rfl ?_
            have b26795l := Int32.le_toInt x26563
            have b26795h := Int32.toInt_lt x26563
            exact g_iret hk hR rfl ⟨I26566, A26566, L26566, (show Md [18, 19, 20] I I26566 from (Md.tr (Md.tr Md.rf hI26557 rfl) hI26566 rfl)), (show Md [18, 19, 20, 21] A A26566 from (Md.tr (Md.tr Md.rf hA26557 rfl) hA26566 rfl)), hV26566, x26563, rfl, rfl⟩ dX12_fired_75
          · skip
            refine g_aload_n hk dX12_fired_27 rfl ?_
            refine gM_r0_35 hk hin12 (List.mem_cons_of_mem _ (List.mem_append_left _ (List.mem_of_getElem? (i := 6) rfl))) dX12_fired_28 ?_
            refine g_iconst (v := 0) hk dX12_fired_31 (by decide) ?_
            refine lM_17 (v := (A 17 0)) hk (vp_in_iff.mpr ⟨by decide, by decide⟩) ((congrFun (hA26566 17 rfl) _).trans (congrFun (hA26557 17 rfl) _)) dX12_fired_32 ?_
            refine g_aload_n hk dX12_fired_33 rfl ?_
            refine g_iload_n hk dX12_fired_34 rfl ?_
            refine g_callV (n := 1) hk (j148_X12_wideOf l D zt r g I26566 A26566 L26566 x26562 hV26566 (by omega) (by omega)) (SP.same _) (fun _ h => h) (gi_V (List.mem_cons_of_mem _ (List.mem_append_left _ (List.mem_of_getElem? (i := 7) rfl))) (List.mem_cons_of_mem _ (List.mem_append_left _ (List.mem_of_getElem? (i := 8) rfl))) (List.mem_cons_of_mem _ (List.mem_append_left _ (List.mem_of_getElem? (i := 9) rfl))) (List.mem_cons_of_mem _ (List.mem_append_left _ (List.mem_of_getElem? (i := 3) rfl))) (gi_sub (fun w h => (List.mem_cons_of_mem _ (List.mem_append_right _ (List.mem_append_right _ (List.mem_append_right _ (List.mem_append_left _ h)))))) zg_j148_X12_wideOf)) rfl rfl rfl (by decide +kernel) ⟨Nat.le_of_ble_eq_true rfl, Nat.le_of_ble_eq_true rfl⟩ 0 rfl rfl rfl rfl (Nat.le_of_ble_eq_true rfl) ⟨Nat.le_of_ble_eq_true rfl, Nat.le_of_ble_eq_true rfl⟩ dX12_fired_35 (fun v ty' w' hp hk' => ?_)
            obtain ⟨rfl, rfl⟩ := hp
            show GW κ 5 0 0 (wM r g I26566 A26566 L26566) 38 [(3, .int x26562), (2, .int x26563), (0, .ref (r 0)), (1, .int z1)] [.int (A26566 11 (5 * (I26566 15) + x26562).toNatClampNeg), .int (A 17 0)]
            refine g_norm (v := (A 11 (5 * (I 15) + x26562).toNatClampNeg)) (by rw [show I26566 15 = (I 15) from ((hI26566 15 rfl).trans (hI26557 15 rfl))]; exact ((congrFun (hA26566 11 rfl) _).trans (congrFun (hA26557 11 rfl) _))) ?_
            have f26796 : 0 ≤ (A 11 (5 * (I 15) + x26562).toNatClampNeg).toInt ∧ (A 11 (5 * (I 15) + x26562).toNatClampNeg).toInt ≤ 16 := IvM_a11 hIv _
            refine g_isub hk dX12_fired_38 ?_
            refine g_topi (fun y26797 ey26797 => ?_)
            have hy26797 : y26797.toInt = (A 17 0).toInt - (A 11 (5 * (I 15) + x26562).toNatClampNeg).toInt := i32_sub ey26797 rfl rfl (by omega) (by omega)
            refine g_istore (lv' := [(4, .int y26797), (3, .int x26562), (2, .int x26563), (0, .ref (r 0)), (1, .int z1)]) hk dX12_fired_39 (by decide) rfl ?_
            refine g_aload_n hk dX12_fired_41 rfl ?_
            refine g_iload_n hk dX12_fired_42 rfl ?_
            refine g_iload hk dX12_fired_43 rfl ?_
            refine g_callV (n := 2) hk (j168_X12_isOf l D zt r g I26566 A26566 L26566 x26562 y26797 hV26566) (SP.same _) (fun _ h => h) (gi_V (List.mem_cons_of_mem _ (List.mem_append_left _ (List.mem_of_getElem? (i := 10) rfl))) (List.mem_cons_of_mem _ (List.mem_append_left _ (List.mem_of_getElem? (i := 11) rfl))) (List.mem_cons_of_mem _ (List.mem_append_left _ (List.mem_of_getElem? (i := 12) rfl))) (List.mem_cons_of_mem _ (List.mem_append_left _ (List.mem_of_getElem? (i := 3) rfl))) (gi_sub (fun w h => (List.mem_cons_of_mem _ (List.mem_append_right _ (List.mem_append_right _ (List.mem_append_right _ (List.mem_append_right _ (List.mem_append_left _ h))))))) zg_j168_X12_isOf)) rfl rfl rfl (by decide +kernel) ⟨Nat.le_of_ble_eq_true rfl, Nat.le_of_ble_eq_true rfl⟩ 0 rfl rfl rfl rfl (Nat.le_of_ble_eq_true rfl) ⟨Nat.le_of_ble_eq_true rfl, Nat.le_of_ble_eq_true rfl⟩ dX12_fired_45 (fun v ty' w' hp hk' => ?_)
            rcases hp with ⟨rfl, rfl⟩ | ⟨c26799, c26800, c26801, c26802, c26803, c26804, c26805, c26806, c26807, rfl, rfl⟩
            · skip
              show GW κ 5 0 0 (wM r g I26566 A26566 L26566) 48 [(4, .int y26797), (3, .int x26562), (2, .int x26563), (0, .ref (r 0)), (1, .int z1)] [.int 0]
              refine g_if_eq (tgt := 68) (a := 0) hk dX12_fired_48 (by decide) rfl (fun _ => ?_) (fun z9 => absurd (show (0 : Int) = (0 : Int) from by decide) z9)
              obtain ⟨y26809, ey26809⟩ : ∃ y : Int32, y = x26562 + Int32.ofInt 1 := ⟨_, rfl⟩
              have hy26809 : y26809.toInt = x26562.toInt + 1 := i32_add ey26809 rfl (by decide) (by omega) (by omega)
              refine g_iinc (v := y26809) (lv' := [(3, .int y26809), (4, .int y26797), (2, .int x26563), (0, .ref (r 0)), (1, .int z1)]) hk 1 dX12_fired_68 rfl ey26809.symm (by decide) rfl ?_
              refine g_goto (tgt := 14) hk dX12_fired_71 (by decide) ?_
              have b26810l := Int32.le_toInt x26563
              have b26810h := Int32.toInt_lt x26563
              exact g_lv (List.forall_mem_cons.mpr ⟨List.mem_of_getElem? (i := 0) rfl, (List.forall_mem_cons.mpr ⟨List.mem_of_getElem? (i := 2) rfl, (List.forall_mem_cons.mpr ⟨List.mem_of_getElem? (i := 3) rfl, (List.forall_mem_cons.mpr ⟨List.mem_of_getElem? (i := 4) rfl, (fun _ h => absurd h List.not_mem_nil)⟩)⟩)⟩)⟩) (ih26790 y26809 x26563 I26566 A26566 L26566 (show Md [18, 19, 20] I26557 I26566 from Md.tr hI26566 (show Md [18, 19, 20] I26566 I26566 from Md.rf) rfl) (show Md [19, 20, 21] A26557 A26566 from Md.tr hA26566 (show Md [19, 20, 21] A26566 A26566 from Md.rf) rfl) hV26566 (by omega) (by omega) (by omega) (by omega))
            · skip
              rw [show (A26566 11 (5 * (I26566 15) + x26562).toNatClampNeg) = (A 11 (5 * (I 15) + x26562).toNatClampNeg) from (by rw [show I26566 15 = (I 15) from ((hI26566 15 rfl).trans (hI26557 15 rfl))]; exact ((congrFun (hA26566 11 rfl) _).trans (congrFun (hA26557 11 rfl) _)))] at c26806
              rw [show (A26566 11 (5 * (I26566 15) + x26562).toNatClampNeg) = (A 11 (5 * (I 15) + x26562).toNatClampNeg) from (by rw [show I26566 15 = (I 15) from ((hI26566 15 rfl).trans (hI26557 15 rfl))]; exact ((congrFun (hA26566 11 rfl) _).trans (congrFun (hA26557 11 rfl) _)))] at c26807
              show GW κ 5 0 0 (wM r g I26566 A26566 L26566) 48 [(4, .int y26797), (3, .int x26562), (2, .int x26563), (0, .ref (r 0)), (1, .int z1)] [.int 1]
              refine g_if_eq (tgt := 68) (a := 1) hk dX12_fired_48 (by decide) rfl (fun z9 => absurd z9 (show ¬ ((1 : Int) = (0 : Int)) from by decide)) (fun _ => ?_)
              refine g_aload_n hk dX12_fired_51 rfl ?_
              refine g_iload_n hk dX12_fired_52 rfl ?_
              refine g_iload hk dX12_fired_53 rfl ?_
              refine g_callV (n := 2) hk (j169_X12_distanceOf l D zt r g I26566 A26566 L26566 x26562 y26797 hV26566 (by omega) (by omega) (by omega) (by omega) (by first | (rw [show (A26566 11 (5 * (I26566 15) + x26562).toNatClampNeg) = (A 11 (5 * (I 15) + x26562).toNatClampNeg) from (by rw [show I26566 15 = (I 15) from ((hI26566 15 rfl).trans (hI26557 15 rfl))]; exact ((congrFun (hA26566 11 rfl) _).trans (congrFun (hA26557 11 rfl) _)))] <;> omega) | omega) (by first | (rw [show (A26566 11 (5 * (I26566 15) + x26562).toNatClampNeg) = (A 11 (5 * (I 15) + x26562).toNatClampNeg) from (by rw [show I26566 15 = (I 15) from ((hI26566 15 rfl).trans (hI26557 15 rfl))]; exact ((congrFun (hA26566 11 rfl) _).trans (congrFun (hA26557 11 rfl) _)))] <;> omega) | omega)) (SP.same _) (fun _ h => h) (gi_V (List.mem_cons_of_mem _ (List.mem_append_left _ (List.mem_of_getElem? (i := 13) rfl))) (List.mem_cons_of_mem _ (List.mem_append_left _ (List.mem_of_getElem? (i := 14) rfl))) (List.mem_cons_of_mem _ (List.mem_append_left _ (List.mem_of_getElem? (i := 15) rfl))) (List.mem_cons_of_mem _ (List.mem_append_left _ (List.mem_of_getElem? (i := 3) rfl))) (gi_sub (fun w h => (List.mem_cons_of_mem _ (List.mem_append_right _ (List.mem_append_right _ (List.mem_append_right _ (List.mem_append_right _ (List.mem_append_right _ (List.mem_append_left _ h)))))))) zg_j169_X12_distanceOf)) rfl rfl rfl (by decide +kernel) ⟨Nat.le_of_ble_eq_true rfl, Nat.le_of_ble_eq_true rfl⟩ 0 rfl rfl rfl rfl (Nat.le_of_ble_eq_true rfl) ⟨Nat.le_of_ble_eq_true rfl, Nat.le_of_ble_eq_true rfl⟩ dX12_fired_55 (fun v ty' w' hp hk' => ?_)
              obtain ⟨I26812, A26812, L26812, hI26812, hA26812, hV26812, y26811, r26813, rfl, rfl⟩ := hp
              have f26814 := IvM_f18 hV26812
              show GW κ 5 0 0 (wM r g I26812 A26812 L26812) 58 [(4, .int y26797), (3, .int x26562), (2, .int x26563), (0, .ref (r 0)), (1, .int z1)] [.int y26811]
              refine g_iload_n hk dX12_fired_58 rfl ?_
              have b26815l := Int32.le_toInt y26811
              have b26815h := Int32.toInt_lt y26811
              refine g_icmp_gt (tgt := 68) (a := y26811.toInt) (b := z1.toInt) hk dX12_fired_59 (by decide) rfl rfl (fun c26816 => ?_) (fun c26816 => ?_)
              · skip
                obtain ⟨y26817, ey26817⟩ : ∃ y : Int32, y = x26562 + Int32.ofInt 1 := ⟨_, rfl⟩
                have hy26817 : y26817.toInt = x26562.toInt + 1 := i32_add ey26817 rfl (by decide) (by omega) (by omega)
                refine g_iinc (v := y26817) (lv' := [(3, .int y26817), (4, .int y26797), (2, .int x26563), (0, .ref (r 0)), (1, .int z1)]) hk 1 dX12_fired_68 rfl ey26817.symm (by decide) rfl ?_
                refine g_goto (tgt := 14) hk dX12_fired_71 (by decide) ?_
                have b26818l := Int32.le_toInt x26563
                have b26818h := Int32.toInt_lt x26563
                exact g_lv (List.forall_mem_cons.mpr ⟨List.mem_of_getElem? (i := 0) rfl, (List.forall_mem_cons.mpr ⟨List.mem_of_getElem? (i := 2) rfl, (List.forall_mem_cons.mpr ⟨List.mem_of_getElem? (i := 3) rfl, (List.forall_mem_cons.mpr ⟨List.mem_of_getElem? (i := 4) rfl, (fun _ h => absurd h List.not_mem_nil)⟩)⟩)⟩)⟩) (ih26790 y26817 x26563 I26812 A26812 L26812 (show Md [18, 19, 20] I26557 I26812 from Md.tr hI26566 (show Md [18, 19, 20] I26566 I26812 from (Md.tr Md.rf hI26812 rfl)) rfl) (show Md [19, 20, 21] A26557 A26812 from Md.tr hA26566 (show Md [19, 20, 21] A26566 A26812 from (Md.tr Md.rf hA26812 rfl)) rfl) hV26812 (by omega) (by omega) (by omega) (by omega))
              · skip
                refine g_iload_n hk dX12_fired_62 rfl ?_
                refine g_iconst (v := 1) hk dX12_fired_63 (by decide) ?_
                refine g_iload_n hk dX12_fired_64 rfl ?_
                refine g_ishl hk dX12_fired_65 ?_
                refine g_topi (fun y26819 ey26819 => ?_)
                refine g_ior hk dX12_fired_66 ?_
                refine g_topi (fun y26820 ey26820 => ?_)
                refine g_istore_n (lv' := [(2, .int y26820), (4, .int y26797), (3, .int x26562), (0, .ref (r 0)), (1, .int z1)]) hk dX12_fired_67 (by decide) rfl ?_
                obtain ⟨y26821, ey26821⟩ : ∃ y : Int32, y = x26562 + Int32.ofInt 1 := ⟨_, rfl⟩
                have hy26821 : y26821.toInt = x26562.toInt + 1 := i32_add ey26821 rfl (by decide) (by omega) (by omega)
                refine g_iinc (v := y26821) (lv' := [(3, .int y26821), (2, .int y26820), (4, .int y26797), (0, .ref (r 0)), (1, .int z1)]) hk 2 dX12_fired_68 rfl ey26821.symm (by decide) rfl ?_
                refine g_goto (tgt := 14) hk dX12_fired_71 (by decide) ?_
                have b26822l := Int32.le_toInt y26820
                have b26822h := Int32.toInt_lt y26820
                exact g_lv (List.forall_mem_cons.mpr ⟨List.mem_of_getElem? (i := 0) rfl, (List.forall_mem_cons.mpr ⟨List.mem_of_getElem? (i := 1) rfl, (List.forall_mem_cons.mpr ⟨List.mem_of_getElem? (i := 3) rfl, (List.forall_mem_cons.mpr ⟨List.mem_of_getElem? (i := 4) rfl, (fun _ h => absurd h List.not_mem_nil)⟩)⟩)⟩)⟩) (ih26790 y26821 y26820 I26812 A26812 L26812 (show Md [18, 19, 20] I26557 I26812 from Md.tr hI26566 (show Md [18, 19, 20] I26566 I26812 from (Md.tr Md.rf hI26812 rfl)) rfl) (show Md [19, 20, 21] A26557 A26812 from Md.tr hA26566 (show Md [19, 20, 21] A26566 A26812 from (Md.tr Md.rf hA26812 rfl)) rfl) hV26812 (by omega) (by omega) (by omega) (by omega))
        by_cases c26823 : (I 15).toInt = 1
        · have ec26823 : (I 15) = 1 := Int32.toInt_inj.mp c26823
          rw [ec26823]
          show GW κ 5 0 0 (wM r g I26566 A26566 L26566) 23 [(3, .int x26562), (2, .int x26563), (0, .ref (r 0)), (1, .int z1)] [.int 1, .ref (r 11), .int x26562]
          refine lM_10 (v := (A 10 1)) hk (vp_in_iff.mpr ⟨by decide, by decide⟩) ((congrFun (hA26566 10 rfl) _).trans (congrFun (hA26557 10 rfl) _)) dX12_fired_23 ?_
          have f26824 := IvM_s10_1 hIv
          refine g_icmp_ge (tgt := 74) (a := x26562.toInt) (b := (A 10 1).toInt) hk dX12_fired_24 (by decide) rfl rfl (fun c26825 => ?_) (fun c26825 => ?_)
          · skip
            refine g_iload_n hk dX12_fired_74 rfl ?_
            have b26826l := Int32.le_toInt x26563
            have b26826h := Int32.toInt_lt x26563
            exact g_iret hk hR rfl ⟨I26566, A26566, L26566, (show Md [18, 19, 20] I I26566 from (Md.tr (Md.tr Md.rf hI26557 rfl) hI26566 rfl)), (show Md [18, 19, 20, 21] A A26566 from (Md.tr (Md.tr Md.rf hA26557 rfl) hA26566 rfl)), hV26566, x26563, rfl, rfl⟩ dX12_fired_75
          · skip
            refine g_aload_n hk dX12_fired_27 rfl ?_
            refine gM_r0_35 hk hin12 (List.mem_cons_of_mem _ (List.mem_append_left _ (List.mem_of_getElem? (i := 6) rfl))) dX12_fired_28 ?_
            refine g_iconst (v := 0) hk dX12_fired_31 (by decide) ?_
            refine lM_17 (v := (A 17 0)) hk (vp_in_iff.mpr ⟨by decide, by decide⟩) ((congrFun (hA26566 17 rfl) _).trans (congrFun (hA26557 17 rfl) _)) dX12_fired_32 ?_
            refine g_aload_n hk dX12_fired_33 rfl ?_
            refine g_iload_n hk dX12_fired_34 rfl ?_
            refine g_callV (n := 1) hk (j148_X12_wideOf l D zt r g I26566 A26566 L26566 x26562 hV26566 (by omega) (by omega)) (SP.same _) (fun _ h => h) (gi_V (List.mem_cons_of_mem _ (List.mem_append_left _ (List.mem_of_getElem? (i := 7) rfl))) (List.mem_cons_of_mem _ (List.mem_append_left _ (List.mem_of_getElem? (i := 8) rfl))) (List.mem_cons_of_mem _ (List.mem_append_left _ (List.mem_of_getElem? (i := 9) rfl))) (List.mem_cons_of_mem _ (List.mem_append_left _ (List.mem_of_getElem? (i := 3) rfl))) (gi_sub (fun w h => (List.mem_cons_of_mem _ (List.mem_append_right _ (List.mem_append_right _ (List.mem_append_right _ (List.mem_append_left _ h)))))) zg_j148_X12_wideOf)) rfl rfl rfl (by decide +kernel) ⟨Nat.le_of_ble_eq_true rfl, Nat.le_of_ble_eq_true rfl⟩ 0 rfl rfl rfl rfl (Nat.le_of_ble_eq_true rfl) ⟨Nat.le_of_ble_eq_true rfl, Nat.le_of_ble_eq_true rfl⟩ dX12_fired_35 (fun v ty' w' hp hk' => ?_)
            obtain ⟨rfl, rfl⟩ := hp
            show GW κ 5 0 0 (wM r g I26566 A26566 L26566) 38 [(3, .int x26562), (2, .int x26563), (0, .ref (r 0)), (1, .int z1)] [.int (A26566 11 (5 * (I26566 15) + x26562).toNatClampNeg), .int (A 17 0)]
            refine g_norm (v := (A 11 (5 * (I 15) + x26562).toNatClampNeg)) (by rw [show I26566 15 = (I 15) from ((hI26566 15 rfl).trans (hI26557 15 rfl))]; exact ((congrFun (hA26566 11 rfl) _).trans (congrFun (hA26557 11 rfl) _))) ?_
            have f26827 : 0 ≤ (A 11 (5 * (I 15) + x26562).toNatClampNeg).toInt ∧ (A 11 (5 * (I 15) + x26562).toNatClampNeg).toInt ≤ 16 := IvM_a11 hIv _
            refine g_isub hk dX12_fired_38 ?_
            refine g_topi (fun y26828 ey26828 => ?_)
            have hy26828 : y26828.toInt = (A 17 0).toInt - (A 11 (5 * (I 15) + x26562).toNatClampNeg).toInt := i32_sub ey26828 rfl rfl (by omega) (by omega)
            refine g_istore (lv' := [(4, .int y26828), (3, .int x26562), (2, .int x26563), (0, .ref (r 0)), (1, .int z1)]) hk dX12_fired_39 (by decide) rfl ?_
            refine g_aload_n hk dX12_fired_41 rfl ?_
            refine g_iload_n hk dX12_fired_42 rfl ?_
            refine g_iload hk dX12_fired_43 rfl ?_
            refine g_callV (n := 2) hk (j168_X12_isOf l D zt r g I26566 A26566 L26566 x26562 y26828 hV26566) (SP.same _) (fun _ h => h) (gi_V (List.mem_cons_of_mem _ (List.mem_append_left _ (List.mem_of_getElem? (i := 10) rfl))) (List.mem_cons_of_mem _ (List.mem_append_left _ (List.mem_of_getElem? (i := 11) rfl))) (List.mem_cons_of_mem _ (List.mem_append_left _ (List.mem_of_getElem? (i := 12) rfl))) (List.mem_cons_of_mem _ (List.mem_append_left _ (List.mem_of_getElem? (i := 3) rfl))) (gi_sub (fun w h => (List.mem_cons_of_mem _ (List.mem_append_right _ (List.mem_append_right _ (List.mem_append_right _ (List.mem_append_right _ (List.mem_append_left _ h))))))) zg_j168_X12_isOf)) rfl rfl rfl (by decide +kernel) ⟨Nat.le_of_ble_eq_true rfl, Nat.le_of_ble_eq_true rfl⟩ 0 rfl rfl rfl rfl (Nat.le_of_ble_eq_true rfl) ⟨Nat.le_of_ble_eq_true rfl, Nat.le_of_ble_eq_true rfl⟩ dX12_fired_45 (fun v ty' w' hp hk' => ?_)
            rcases hp with ⟨rfl, rfl⟩ | ⟨c26830, c26831, c26832, c26833, c26834, c26835, c26836, c26837, c26838, rfl, rfl⟩
            · skip
              show GW κ 5 0 0 (wM r g I26566 A26566 L26566) 48 [(4, .int y26828), (3, .int x26562), (2, .int x26563), (0, .ref (r 0)), (1, .int z1)] [.int 0]
              refine g_if_eq (tgt := 68) (a := 0) hk dX12_fired_48 (by decide) rfl (fun _ => ?_) (fun z9 => absurd (show (0 : Int) = (0 : Int) from by decide) z9)
              obtain ⟨y26840, ey26840⟩ : ∃ y : Int32, y = x26562 + Int32.ofInt 1 := ⟨_, rfl⟩
              have hy26840 : y26840.toInt = x26562.toInt + 1 := i32_add ey26840 rfl (by decide) (by omega) (by omega)
              refine g_iinc (v := y26840) (lv' := [(3, .int y26840), (4, .int y26828), (2, .int x26563), (0, .ref (r 0)), (1, .int z1)]) hk 1 dX12_fired_68 rfl ey26840.symm (by decide) rfl ?_
              refine g_goto (tgt := 14) hk dX12_fired_71 (by decide) ?_
              have b26841l := Int32.le_toInt x26563
              have b26841h := Int32.toInt_lt x26563
              exact g_lv (List.forall_mem_cons.mpr ⟨List.mem_of_getElem? (i := 0) rfl, (List.forall_mem_cons.mpr ⟨List.mem_of_getElem? (i := 2) rfl, (List.forall_mem_cons.mpr ⟨List.mem_of_getElem? (i := 3) rfl, (List.forall_mem_cons.mpr ⟨List.mem_of_getElem? (i := 4) rfl, (fun _ h => absurd h List.not_mem_nil)⟩)⟩)⟩)⟩) (ih26790 y26840 x26563 I26566 A26566 L26566 (show Md [18, 19, 20] I26557 I26566 from Md.tr hI26566 (show Md [18, 19, 20] I26566 I26566 from Md.rf) rfl) (show Md [19, 20, 21] A26557 A26566 from Md.tr hA26566 (show Md [19, 20, 21] A26566 A26566 from Md.rf) rfl) hV26566 (by omega) (by omega) (by omega) (by omega))
            · skip
              rw [show (A26566 11 (5 * (I26566 15) + x26562).toNatClampNeg) = (A 11 (5 * (I 15) + x26562).toNatClampNeg) from (by rw [show I26566 15 = (I 15) from ((hI26566 15 rfl).trans (hI26557 15 rfl))]; exact ((congrFun (hA26566 11 rfl) _).trans (congrFun (hA26557 11 rfl) _)))] at c26837
              rw [show (A26566 11 (5 * (I26566 15) + x26562).toNatClampNeg) = (A 11 (5 * (I 15) + x26562).toNatClampNeg) from (by rw [show I26566 15 = (I 15) from ((hI26566 15 rfl).trans (hI26557 15 rfl))]; exact ((congrFun (hA26566 11 rfl) _).trans (congrFun (hA26557 11 rfl) _)))] at c26838
              show GW κ 5 0 0 (wM r g I26566 A26566 L26566) 48 [(4, .int y26828), (3, .int x26562), (2, .int x26563), (0, .ref (r 0)), (1, .int z1)] [.int 1]
              refine g_if_eq (tgt := 68) (a := 1) hk dX12_fired_48 (by decide) rfl (fun z9 => absurd z9 (show ¬ ((1 : Int) = (0 : Int)) from by decide)) (fun _ => ?_)
              refine g_aload_n hk dX12_fired_51 rfl ?_
              refine g_iload_n hk dX12_fired_52 rfl ?_
              refine g_iload hk dX12_fired_53 rfl ?_
              refine g_callV (n := 2) hk (j169_X12_distanceOf l D zt r g I26566 A26566 L26566 x26562 y26828 hV26566 (by omega) (by omega) (by omega) (by omega) (by first | (rw [show (A26566 11 (5 * (I26566 15) + x26562).toNatClampNeg) = (A 11 (5 * (I 15) + x26562).toNatClampNeg) from (by rw [show I26566 15 = (I 15) from ((hI26566 15 rfl).trans (hI26557 15 rfl))]; exact ((congrFun (hA26566 11 rfl) _).trans (congrFun (hA26557 11 rfl) _)))] <;> omega) | omega) (by first | (rw [show (A26566 11 (5 * (I26566 15) + x26562).toNatClampNeg) = (A 11 (5 * (I 15) + x26562).toNatClampNeg) from (by rw [show I26566 15 = (I 15) from ((hI26566 15 rfl).trans (hI26557 15 rfl))]; exact ((congrFun (hA26566 11 rfl) _).trans (congrFun (hA26557 11 rfl) _)))] <;> omega) | omega)) (SP.same _) (fun _ h => h) (gi_V (List.mem_cons_of_mem _ (List.mem_append_left _ (List.mem_of_getElem? (i := 13) rfl))) (List.mem_cons_of_mem _ (List.mem_append_left _ (List.mem_of_getElem? (i := 14) rfl))) (List.mem_cons_of_mem _ (List.mem_append_left _ (List.mem_of_getElem? (i := 15) rfl))) (List.mem_cons_of_mem _ (List.mem_append_left _ (List.mem_of_getElem? (i := 3) rfl))) (gi_sub (fun w h => (List.mem_cons_of_mem _ (List.mem_append_right _ (List.mem_append_right _ (List.mem_append_right _ (List.mem_append_right _ (List.mem_append_right _ (List.mem_append_left _ h)))))))) zg_j169_X12_distanceOf)) rfl rfl rfl (by decide +kernel) ⟨Nat.le_of_ble_eq_true rfl, Nat.le_of_ble_eq_true rfl⟩ 0 rfl rfl rfl rfl (Nat.le_of_ble_eq_true rfl) ⟨Nat.le_of_ble_eq_true rfl, Nat.le_of_ble_eq_true rfl⟩ dX12_fired_55 (fun v ty' w' hp hk' => ?_)
              obtain ⟨I26843, A26843, L26843, hI26843, hA26843, hV26843, y26842, r26844, rfl, rfl⟩ := hp
              have f26845 := IvM_f18 hV26843
              show GW κ 5 0 0 (wM r g I26843 A26843 L26843) 58 [(4, .int y26828), (3, .int x26562), (2, .int x26563), (0, .ref (r 0)), (1, .int z1)] [.int y26842]
              refine g_iload_n hk dX12_fired_58 rfl ?_
              have b26846l := Int32.le_toInt y26842
              have b26846h := Int32.toInt_lt y26842
              refine g_icmp_gt (tgt := 68) (a := y26842.toInt) (b := z1.toInt) hk dX12_fired_59 (by decide) rfl rfl (fun c26847 => ?_) (fun c26847 => ?_)
              · skip
                obtain ⟨y26848, ey26848⟩ : ∃ y : Int32, y = x26562 + Int32.ofInt 1 := ⟨_, rfl⟩
                have hy26848 : y26848.toInt = x26562.toInt + 1 := i32_add ey26848 rfl (by decide) (by omega) (by omega)
                refine g_iinc (v := y26848) (lv' := [(3, .int y26848), (4, .int y26828), (2, .int x26563), (0, .ref (r 0)), (1, .int z1)]) hk 1 dX12_fired_68 rfl ey26848.symm (by decide) rfl ?_
                refine g_goto (tgt := 14) hk dX12_fired_71 (by decide) ?_
                have b26849l := Int32.le_toInt x26563
                have b26849h := Int32.toInt_lt x26563
                exact g_lv (List.forall_mem_cons.mpr ⟨List.mem_of_getElem? (i := 0) rfl, (List.forall_mem_cons.mpr ⟨List.mem_of_getElem? (i := 2) rfl, (List.forall_mem_cons.mpr ⟨List.mem_of_getElem? (i := 3) rfl, (List.forall_mem_cons.mpr ⟨List.mem_of_getElem? (i := 4) rfl, (fun _ h => absurd h List.not_mem_nil)⟩)⟩)⟩)⟩) (ih26790 y26848 x26563 I26843 A26843 L26843 (show Md [18, 19, 20] I26557 I26843 from Md.tr hI26566 (show Md [18, 19, 20] I26566 I26843 from (Md.tr Md.rf hI26843 rfl)) rfl) (show Md [19, 20, 21] A26557 A26843 from Md.tr hA26566 (show Md [19, 20, 21] A26566 A26843 from (Md.tr Md.rf hA26843 rfl)) rfl) hV26843 (by omega) (by omega) (by omega) (by omega))
              · skip
                refine g_iload_n hk dX12_fired_62 rfl ?_
                refine g_iconst (v := 1) hk dX12_fired_63 (by decide) ?_
                refine g_iload_n hk dX12_fired_64 rfl ?_
                refine g_ishl hk dX12_fired_65 ?_
                refine g_topi (fun y26850 ey26850 => ?_)
                refine g_ior hk dX12_fired_66 ?_
                refine g_topi (fun y26851 ey26851 => ?_)
                refine g_istore_n (lv' := [(2, .int y26851), (4, .int y26828), (3, .int x26562), (0, .ref (r 0)), (1, .int z1)]) hk dX12_fired_67 (by decide) rfl ?_
                obtain ⟨y26852, ey26852⟩ : ∃ y : Int32, y = x26562 + Int32.ofInt 1 := ⟨_, rfl⟩
                have hy26852 : y26852.toInt = x26562.toInt + 1 := i32_add ey26852 rfl (by decide) (by omega) (by omega)
                refine g_iinc (v := y26852) (lv' := [(3, .int y26852), (2, .int y26851), (4, .int y26828), (0, .ref (r 0)), (1, .int z1)]) hk 2 dX12_fired_68 rfl ey26852.symm (by decide) rfl ?_
                refine g_goto (tgt := 14) hk dX12_fired_71 (by decide) ?_
                have b26853l := Int32.le_toInt y26851
                have b26853h := Int32.toInt_lt y26851
                exact g_lv (List.forall_mem_cons.mpr ⟨List.mem_of_getElem? (i := 0) rfl, (List.forall_mem_cons.mpr ⟨List.mem_of_getElem? (i := 1) rfl, (List.forall_mem_cons.mpr ⟨List.mem_of_getElem? (i := 3) rfl, (List.forall_mem_cons.mpr ⟨List.mem_of_getElem? (i := 4) rfl, (fun _ h => absurd h List.not_mem_nil)⟩)⟩)⟩)⟩) (ih26790 y26852 y26851 I26843 A26843 L26843 (show Md [18, 19, 20] I26557 I26843 from Md.tr hI26566 (show Md [18, 19, 20] I26566 I26843 from (Md.tr Md.rf hI26843 rfl)) rfl) (show Md [19, 20, 21] A26557 A26843 from Md.tr hA26566 (show Md [19, 20, 21] A26566 A26843 from (Md.tr Md.rf hA26843 rfl)) rfl) hV26843 (by omega) (by omega) (by omega) (by omega))
        exfalso; omega
    have k26854 : (0 : Int32).toInt = 0 := rfl
    obtain ⟨n26855, n26855a, n26855b⟩ : ∃ n : Nat, 6 - (0 : Int32).toInt < (n : Int) ∧ 0 < n := ⟨((6 - (0 : Int32).toInt : Int)).toNat + 1, by omega, by omega⟩
    exact lp26787 n26855 0 0 I26557 A26557 L26557 Md.rf Md.rf hV26557 (by omega) (by omega) n26855a n26855b
  · skip
    refine g_iconst (v := (-1)) hk dX12_fired_4 (by decide) ?_
    exact g_iret hk hR rfl ⟨I, A, L, (show Md [18, 19, 20] I I from Md.rf), (show Md [18, 19, 20, 21] A A from Md.rf), hIv, (-1), rfl, rfl⟩ dX12_fired_5
def wo_j215_X12_hold : List Cond := [Cond.methodLink RX12 244 yX12_in, Cond.static yX12_in, Cond.initialized RX12, Cond.fieldLink RX12 100 "WarpDeskModel" "isHeld" "[Z", Cond.fieldLink RX12 104 "WarpDeskModel" "heldRows" "[I", Cond.fieldLink RX12 70 "WarpDeskModel" "now" "[I"]
def wz_j215_X12_hold : List Cond := .code yX12_hold cX12_hold 3 (some .boolean) :: (wo_j215_X12_hold ++ (wsX120 ++ (wz_j145_X12_in ++ ([] : List Cond))))
theorem zg_j215_X12_hold : ∀ w ∈ wz_j215_X12_hold, goodWord w = true := zg_cons rfl (zg_app (by decide +kernel) (zg_app zgU_wsX120 (zg_app zg_j145_X12_in zg_nil)))
theorem zi_j215_X12_hold : ∀ w ∈ wz_j215_X12_hold, w ∈ lw_tbl := zi_cons zw_1938 (zi_app (zi_cons zw_1656 (zi_cons zw_1657 (zi_cons zw_115 (zi_cons zw_1431 (zi_cons zw_1432 (zi_cons zw_1413 zi_nil)))))) (zi_app inX12 (zi_app zi_j145_X12_in zi_nil)))
set_option maxHeartbeats 4000000 in
set_option maxRecDepth 100000 in
theorem j215_X12_hold (l : Launch) (D : va_G) (zt : Nat × Nat × Nat × (Nat → Nat) × (Nat → Nat)) (r : Nat → Nat) (g : Nat → ClassId) (I : Nat → Int32) (A : Nat → Nat → Int32) (L : Nat → Nat → Int64) (z1 : Int32) (hIv : IvM I A) : GM l D zt (tyM g) yX12_hold wz_j215_X12_hold ({ frames := 1, cells := 0, slots := 0, locals := 22 } : Room) [.ref (r 0), .int z1] (wM r g I A L) (fun v _ w' => ∃ (I' : Nat → Int32) (A' : Nat → Nat → Int32) (L' : Nat → Nat → Int64), Md [] I I' ∧ Md [27, 28] A A' ∧ IvM I' A' ∧ ∃ y0 : Int32, (0 ≤ y0.toInt) ∧ (y0.toInt ≤ 1) ∧ v = some (.int y0) ∧ w' = wM r g I' A' L') 0 0 := by
  refine GM.of (cc := cX12_hold) (maxL := 3) (ret := (some .boolean)) (own := RX12) (lv := [(0, .ref (r 0)), (1, .int z1)]) (by decide) rfl rfl (Nat.le_of_ble_eq_true rfl) rfl (fun κ sz hk hR hN => ?_)
  have hin12 : ∀ w ∈ u_ws RX12 TX12 55, w ∈ wz_j215_X12_hold := fun w h => (List.mem_cons_of_mem _ (List.mem_append_right _ (List.mem_append_left _ h)))
  refine g_iload_n hk dX12_hold_0 rfl ?_
  refine g_iconst (v := 0) hk dX12_hold_1 (by decide) ?_
  refine g_iconst (v := 2) hk dX12_hold_2 (by decide) ?_
  have k26856 : (0 : Int32).toInt = 0 := rfl
  have k26857 : (2 : Int32).toInt = 2 := rfl
  refine g_callS (n := 3) hk (j145_X12_in l D zt r g I A L z1 0 2 hIv) (SP.same _) (fun _ h => h) (gi_S (List.mem_cons_of_mem _ (List.mem_append_left _ (List.mem_of_getElem? (i := 0) rfl))) (List.mem_cons_of_mem _ (List.mem_append_left _ (List.mem_of_getElem? (i := 1) rfl))) (List.mem_cons_of_mem _ (List.mem_append_left _ (List.mem_of_getElem? (i := 2) rfl))) (gi_sub (fun w h => (List.mem_cons_of_mem _ (List.mem_append_right _ (List.mem_append_right _ (List.mem_append_left _ h))))) zg_j145_X12_in)) rfl rfl rfl (by decide +kernel) ⟨Nat.le_of_ble_eq_true rfl, Nat.le_of_ble_eq_true rfl⟩ rfl rfl (Nat.le_of_ble_eq_true rfl) ⟨Nat.le_of_ble_eq_true rfl, Nat.le_of_ble_eq_true rfl⟩ dX12_hold_3 (fun v ty' w' hp hk' => ?_)
  rcases hp with ⟨c26858, rfl, rfl⟩ | ⟨c26860, c26861, rfl, rfl⟩
  · skip
    have b26863l := Int32.le_toInt z1
    have b26863h := Int32.toInt_lt z1
    show GW κ 3 0 0 (wM r g I A L) 6 [(0, .ref (r 0)), (1, .int z1)] [.int 0]
    refine g_if_ne (tgt := 11) (a := 0) hk dX12_hold_6 (by decide) rfl (fun z9 => absurd z9 (show ¬ ((0 : Int) ≠ (0 : Int)) from by decide)) (fun _ => ?_)
    refine g_iconst (v := 0) hk dX12_hold_9 (by decide) ?_
    exact g_iret hk hR rfl ⟨I, A, L, (show Md [] I I from Md.rf), (show Md [27, 28] A A from Md.rf), hIv, 0, (by decide), (by decide), rfl, rfl⟩ dX12_hold_10
  · skip
    show GW κ 3 0 0 (wM r g I A L) 6 [(0, .ref (r 0)), (1, .int z1)] [.int 1]
    refine g_if_ne (tgt := 11) (a := 1) hk dX12_hold_6 (by decide) rfl (fun _ => ?_) (fun z9 => absurd (show (1 : Int) ≠ (0 : Int) from by decide) z9)
    refine g_aload_n hk dX12_hold_11 rfl ?_
    refine gM_r0_53 hk hin12 (List.mem_cons_of_mem _ (List.mem_append_left _ (List.mem_of_getElem? (i := 3) rfl))) dX12_hold_12 ?_
    refine g_iload_n hk dX12_hold_15 rfl ?_
    refine g_iconst (v := 1) hk dX12_hold_16 (by decide) ?_
    by_cases c26864 : z1.toInt = 0
    · have ec26864 : z1 = 0 := Int32.toInt_inj.mp c26864
      rw [ec26864]
      show GW κ 3 0 0 (wM r g I A L) 17 [(0, .ref (r 0)), (1, .int 0)] [.int 1, .int 0, .ref (r 28)]
      have k26865 : (1 : Int32).toInt = 1 := rfl
      refine sM_27 (y := (vp_nar .boolean 1)) (j := 0) hk (vp_in_iff.mpr ⟨by decide, by decide⟩) (by decide) rfl dX12_hold_17 ?_
      refine g_iconst (v := 0) hk dX12_hold_18 (by decide) ?_
      refine g_istore_n (lv' := [(2, .int 0), (0, .ref (r 0)), (1, .int 0)]) hk dX12_hold_19 (by decide) rfl ?_
      have lp26866 : ∀ (n26868 k26867 : Nat), k26867 + n26868 = 165 → GW κ 3 0 0 (wM r g I (up2 (up3 A 27 0 (vp_nar .boolean 1)) 28 (cpo (A 17) ((up3 A 27 0 (vp_nar .boolean 1)) 28) (165 * 0) k26867)) L) 20 [(2, .int (nI k26867)), (0, .ref (r 0)), (1, .int 0)] [] := by
        intro n26868
        induction n26868 with
        | zero =>
          intro k26867 hk26867
          obtain rfl : k26867 = 165 := by omega
          show GW κ 3 0 0 (wM r g I (up2 (up3 A 27 0 (vp_nar .boolean 1)) 28 (cpo (A 17) ((up3 A 27 0 (vp_nar .boolean 1)) 28) (165 * 0) 165)) L) 20 [(2, .int 165), (0, .ref (r 0)), (1, .int 0)] []
          refine g_iload_n hk dX12_hold_20 rfl ?_
          refine g_sipush (v := 165) hk dX12_hold_21 (by decide) ?_
          refine g_icmp_ge (tgt := 51) (a := 165) (b := 165) hk dX12_hold_24 (by decide) rfl rfl (fun _ => ?_) (fun z9 => absurd (show (165 : Int) ≤ (165 : Int) from by decide) z9)
          refine g_iconst (v := 1) hk dX12_hold_51 (by decide) ?_
          exact g_iret hk hR rfl ⟨I, (up2 (up3 A 27 0 (vp_nar .boolean 1)) 28 (cpo (A 17) ((up3 A 27 0 (vp_nar .boolean 1)) 28) (165 * 0) 165)), L, (show Md [] I I from Md.rf), (show Md [27, 28] A (up2 (up3 A 27 0 (vp_nar .boolean 1)) 28 (cpo (A 17) ((up3 A 27 0 (vp_nar .boolean 1)) 28) (165 * 0) 165)) from (Md.up2 (Md.up3 Md.rf rfl) rfl)), ⟨(IvM_f1 (I := I) (A := A) hIv), (IvM_f2 (I := I) (A := A) hIv), (IvM_f3 (I := I) (A := A) hIv), (IvM_f4 (I := I) (A := A) hIv), (IvM_f6 (I := I) (A := A) hIv), (IvM_f8 (I := I) (A := A) hIv), (IvM_f15 (I := I) (A := A) hIv), (IvM_f16 (I := I) (A := A) hIv), (IvM_f17 (I := I) (A := A) hIv), (IvM_f18 (I := I) (A := A) hIv), (IvM_f22 (I := I) (A := A) hIv), (IvM_f23 (I := I) (A := A) hIv), (IvM_f24 (I := I) (A := A) hIv), (IvM_a11 (I := I) (A := A) hIv), (IvM_a26 (I := I) (A := A) hIv), (IvM_s8_0 (I := I) (A := A) hIv), (IvM_s8_1 (I := I) (A := A) hIv), (IvM_s10_0 (I := I) (A := A) hIv), (IvM_s10_1 (I := I) (A := A) hIv), (IvM_s17_0 (I := I) (A := A) hIv), (IvM_s17_164 (I := I) (A := A) hIv), (IvM_lv (I := I) (A := A) hIv), (IvM_sd (I := I) (A := A) hIv), (IvM_nq (I := I) (A := A) hIv), (IvM_hr (I := I) (A := A) hIv), (hh_cpo (IvM_hh (I := I) (A := A) hIv) ⟨(IvM_s17_0 (I := I) (A := A) hIv), (IvM_s17_164 (I := I) (A := A) hIv).1⟩), trivial⟩, 1, (by decide), (by decide), rfl, rfl⟩ dX12_hold_52
        | succ n26868 ih26870 =>
          intro k26867 hk26867
          obtain ⟨x26869, ex26869⟩ : ∃ x : Int32, x = nI k26867 := ⟨_, rfl⟩
          have hx26869 : x26869.toInt = (k26867 : Int) := by rw [ex26869]; exact nI_toInt (by omega)
          have cx26869 : x26869.toNatClampNeg = k26867 := cl_nat hx26869
          rw [← ex26869]
          refine g_iload_n hk dX12_hold_20 rfl ?_
          refine g_sipush (v := 165) hk dX12_hold_21 (by decide) ?_
          refine g_icmp_ge (tgt := 51) (a := x26869.toInt) (b := 165) hk dX12_hold_24 (by decide) rfl rfl (fun z9 => absurd z9 (show ¬ (165 ≤ x26869.toInt) from by omega)) (fun _ => ?_)
          refine g_aload_n hk dX12_hold_27 rfl ?_
          refine gM_r0_54 hk hin12 (List.mem_cons_of_mem _ (List.mem_append_left _ (List.mem_of_getElem? (i := 4) rfl))) dX12_hold_28 ?_
          refine g_sipush (v := 165) hk dX12_hold_31 (by decide) ?_
          refine g_iload_n hk dX12_hold_34 rfl ?_
          refine g_imul hk dX12_hold_35 ?_
          refine g_norm (v := 0) (by decide) ?_
          refine g_iload_n hk dX12_hold_36 rfl ?_
          refine g_iadd hk dX12_hold_37 ?_
          refine g_topi (fun y26871 ey26871 => ?_)
          have hy26871 : y26871.toInt = 0 + x26869.toInt := i32_add ey26871 rfl rfl (by omega) (by omega)
          refine g_aload_n hk dX12_hold_38 rfl ?_
          refine gM_r0_35 hk hin12 (List.mem_cons_of_mem _ (List.mem_append_left _ (List.mem_of_getElem? (i := 5) rfl))) dX12_hold_39 ?_
          refine g_iload_n hk dX12_hold_42 rfl ?_
          refine lM_17 (v := (A 17 x26869.toNatClampNeg)) hk (vp_in_iff.mpr ⟨by omega, by omega⟩) rfl dX12_hold_43 ?_
          refine sM_28 (j := y26871.toNatClampNeg) hk (vp_in_iff.mpr ⟨by omega, by omega⟩) rfl dX12_hold_44 ?_
          obtain ⟨y26872, ey26872⟩ : ∃ y : Int32, y = x26869 + Int32.ofInt 1 := ⟨_, rfl⟩
          have hy26872 : y26872.toInt = x26869.toInt + 1 := i32_add ey26872 rfl (by decide) (by omega) (by omega)
          refine g_iinc (v := y26872) (lv' := [(2, .int y26872), (0, .ref (r 0)), (1, .int 0)]) hk 0 dX12_hold_45 rfl ey26872.symm (by decide) rfl ?_
          refine g_goto (tgt := 20) hk dX12_hold_48 (by decide) ?_
          have q26873 := cl_int (y := x26869) (by omega)
          have q26874 := cl_int (y := y26871) (by omega)
          have eW : (up3 (up2 (up3 A 27 0 (vp_nar .boolean 1)) 28 (cpo (A 17) ((up3 A 27 0 (vp_nar .boolean 1)) 28) (165 * 0) k26867)) 28 (y26871.toNatClampNeg) (A 17 x26869.toNatClampNeg)) = (up2 (up3 A 27 0 (vp_nar .boolean 1)) 28 (cpo (A 17) ((up3 A 27 0 (vp_nar .boolean 1)) 28) (165 * 0) (k26867 + 1))) := cpo_st (by omega) (show (A 17 x26869.toNatClampNeg) = (A 17 k26867) from by rw [show x26869.toNatClampNeg = k26867 from by omega])
          have fy : y26872 = nI (k26867 + 1) := nI_of_toInt (by omega) (by omega)
          rw [eW, fy]
          exact g_lv (List.forall_mem_cons.mpr ⟨List.mem_of_getElem? (i := 0) rfl, (List.forall_mem_cons.mpr ⟨List.mem_of_getElem? (i := 1) rfl, (List.forall_mem_cons.mpr ⟨List.mem_of_getElem? (i := 2) rfl, (fun _ h => absurd h List.not_mem_nil)⟩)⟩)⟩) (ih26870 (k26867 + 1) (by omega))
      have lp26866e := lp26866 165 0 (by omega)
      rw [cpo_0] at lp26866e
      exact lp26866e
    by_cases c26875 : z1.toInt = 1
    · have ec26875 : z1 = 1 := Int32.toInt_inj.mp c26875
      rw [ec26875]
      show GW κ 3 0 0 (wM r g I A L) 17 [(0, .ref (r 0)), (1, .int 1)] [.int 1, .int 1, .ref (r 28)]
      have k26876 : (1 : Int32).toInt = 1 := rfl
      refine sM_27 (y := (vp_nar .boolean 1)) (j := 1) hk (vp_in_iff.mpr ⟨by decide, by decide⟩) (by decide) rfl dX12_hold_17 ?_
      refine g_iconst (v := 0) hk dX12_hold_18 (by decide) ?_
      refine g_istore_n (lv' := [(2, .int 0), (0, .ref (r 0)), (1, .int 1)]) hk dX12_hold_19 (by decide) rfl ?_
      have lp26877 : ∀ (n26879 k26878 : Nat), k26878 + n26879 = 165 → GW κ 3 0 0 (wM r g I (up2 (up3 A 27 1 (vp_nar .boolean 1)) 28 (cpo (A 17) ((up3 A 27 1 (vp_nar .boolean 1)) 28) (165 * 1) k26878)) L) 20 [(2, .int (nI k26878)), (0, .ref (r 0)), (1, .int 1)] [] := by
        intro n26879
        induction n26879 with
        | zero =>
          intro k26878 hk26878
          obtain rfl : k26878 = 165 := by omega
          show GW κ 3 0 0 (wM r g I (up2 (up3 A 27 1 (vp_nar .boolean 1)) 28 (cpo (A 17) ((up3 A 27 1 (vp_nar .boolean 1)) 28) (165 * 1) 165)) L) 20 [(2, .int 165), (0, .ref (r 0)), (1, .int 1)] []
          refine g_iload_n hk dX12_hold_20 rfl ?_
          refine g_sipush (v := 165) hk dX12_hold_21 (by decide) ?_
          refine g_icmp_ge (tgt := 51) (a := 165) (b := 165) hk dX12_hold_24 (by decide) rfl rfl (fun _ => ?_) (fun z9 => absurd (show (165 : Int) ≤ (165 : Int) from by decide) z9)
          refine g_iconst (v := 1) hk dX12_hold_51 (by decide) ?_
          exact g_iret hk hR rfl ⟨I, (up2 (up3 A 27 1 (vp_nar .boolean 1)) 28 (cpo (A 17) ((up3 A 27 1 (vp_nar .boolean 1)) 28) (165 * 1) 165)), L, (show Md [] I I from Md.rf), (show Md [27, 28] A (up2 (up3 A 27 1 (vp_nar .boolean 1)) 28 (cpo (A 17) ((up3 A 27 1 (vp_nar .boolean 1)) 28) (165 * 1) 165)) from (Md.up2 (Md.up3 Md.rf rfl) rfl)), ⟨(IvM_f1 (I := I) (A := A) hIv), (IvM_f2 (I := I) (A := A) hIv), (IvM_f3 (I := I) (A := A) hIv), (IvM_f4 (I := I) (A := A) hIv), (IvM_f6 (I := I) (A := A) hIv), (IvM_f8 (I := I) (A := A) hIv), (IvM_f15 (I := I) (A := A) hIv), (IvM_f16 (I := I) (A := A) hIv), (IvM_f17 (I := I) (A := A) hIv), (IvM_f18 (I := I) (A := A) hIv), (IvM_f22 (I := I) (A := A) hIv), (IvM_f23 (I := I) (A := A) hIv), (IvM_f24 (I := I) (A := A) hIv), (IvM_a11 (I := I) (A := A) hIv), (IvM_a26 (I := I) (A := A) hIv), (IvM_s8_0 (I := I) (A := A) hIv), (IvM_s8_1 (I := I) (A := A) hIv), (IvM_s10_0 (I := I) (A := A) hIv), (IvM_s10_1 (I := I) (A := A) hIv), (IvM_s17_0 (I := I) (A := A) hIv), (IvM_s17_164 (I := I) (A := A) hIv), (IvM_lv (I := I) (A := A) hIv), (IvM_sd (I := I) (A := A) hIv), (IvM_nq (I := I) (A := A) hIv), (IvM_hr (I := I) (A := A) hIv), (hh_cpo (IvM_hh (I := I) (A := A) hIv) ⟨(IvM_s17_0 (I := I) (A := A) hIv), (IvM_s17_164 (I := I) (A := A) hIv).1⟩), trivial⟩, 1, (by decide), (by decide), rfl, rfl⟩ dX12_hold_52
        | succ n26879 ih26881 =>
          intro k26878 hk26878
          obtain ⟨x26880, ex26880⟩ : ∃ x : Int32, x = nI k26878 := ⟨_, rfl⟩
          have hx26880 : x26880.toInt = (k26878 : Int) := by rw [ex26880]; exact nI_toInt (by omega)
          have cx26880 : x26880.toNatClampNeg = k26878 := cl_nat hx26880
          rw [← ex26880]
          refine g_iload_n hk dX12_hold_20 rfl ?_
          refine g_sipush (v := 165) hk dX12_hold_21 (by decide) ?_
          refine g_icmp_ge (tgt := 51) (a := x26880.toInt) (b := 165) hk dX12_hold_24 (by decide) rfl rfl (fun z9 => absurd z9 (show ¬ (165 ≤ x26880.toInt) from by omega)) (fun _ => ?_)
          refine g_aload_n hk dX12_hold_27 rfl ?_
          refine gM_r0_54 hk hin12 (List.mem_cons_of_mem _ (List.mem_append_left _ (List.mem_of_getElem? (i := 4) rfl))) dX12_hold_28 ?_
          refine g_sipush (v := 165) hk dX12_hold_31 (by decide) ?_
          refine g_iload_n hk dX12_hold_34 rfl ?_
          refine g_imul hk dX12_hold_35 ?_
          refine g_norm (v := 165) (by decide) ?_
          refine g_iload_n hk dX12_hold_36 rfl ?_
          refine g_iadd hk dX12_hold_37 ?_
          refine g_topi (fun y26882 ey26882 => ?_)
          have hy26882 : y26882.toInt = 165 + x26880.toInt := i32_add ey26882 rfl rfl (by omega) (by omega)
          refine g_aload_n hk dX12_hold_38 rfl ?_
          refine gM_r0_35 hk hin12 (List.mem_cons_of_mem _ (List.mem_append_left _ (List.mem_of_getElem? (i := 5) rfl))) dX12_hold_39 ?_
          refine g_iload_n hk dX12_hold_42 rfl ?_
          refine lM_17 (v := (A 17 x26880.toNatClampNeg)) hk (vp_in_iff.mpr ⟨by omega, by omega⟩) rfl dX12_hold_43 ?_
          refine sM_28 (j := y26882.toNatClampNeg) hk (vp_in_iff.mpr ⟨by omega, by omega⟩) rfl dX12_hold_44 ?_
          obtain ⟨y26883, ey26883⟩ : ∃ y : Int32, y = x26880 + Int32.ofInt 1 := ⟨_, rfl⟩
          have hy26883 : y26883.toInt = x26880.toInt + 1 := i32_add ey26883 rfl (by decide) (by omega) (by omega)
          refine g_iinc (v := y26883) (lv' := [(2, .int y26883), (0, .ref (r 0)), (1, .int 1)]) hk 0 dX12_hold_45 rfl ey26883.symm (by decide) rfl ?_
          refine g_goto (tgt := 20) hk dX12_hold_48 (by decide) ?_
          have q26884 := cl_int (y := x26880) (by omega)
          have q26885 := cl_int (y := y26882) (by omega)
          have eW : (up3 (up2 (up3 A 27 1 (vp_nar .boolean 1)) 28 (cpo (A 17) ((up3 A 27 1 (vp_nar .boolean 1)) 28) (165 * 1) k26878)) 28 (y26882.toNatClampNeg) (A 17 x26880.toNatClampNeg)) = (up2 (up3 A 27 1 (vp_nar .boolean 1)) 28 (cpo (A 17) ((up3 A 27 1 (vp_nar .boolean 1)) 28) (165 * 1) (k26878 + 1))) := cpo_st (by omega) (show (A 17 x26880.toNatClampNeg) = (A 17 k26878) from by rw [show x26880.toNatClampNeg = k26878 from by omega])
          have fy : y26883 = nI (k26878 + 1) := nI_of_toInt (by omega) (by omega)
          rw [eW, fy]
          exact g_lv (List.forall_mem_cons.mpr ⟨List.mem_of_getElem? (i := 0) rfl, (List.forall_mem_cons.mpr ⟨List.mem_of_getElem? (i := 1) rfl, (List.forall_mem_cons.mpr ⟨List.mem_of_getElem? (i := 2) rfl, (fun _ h => absurd h List.not_mem_nil)⟩)⟩)⟩) (ih26881 (k26878 + 1) (by omega))
      have lp26877e := lp26877 165 0 (by omega)
      rw [cpo_0] at lp26877e
      exact lp26877e
    by_cases c26886 : z1.toInt = 2
    · have ec26886 : z1 = 2 := Int32.toInt_inj.mp c26886
      rw [ec26886]
      show GW κ 3 0 0 (wM r g I A L) 17 [(0, .ref (r 0)), (1, .int 2)] [.int 1, .int 2, .ref (r 28)]
      have k26887 : (1 : Int32).toInt = 1 := rfl
      refine sM_27 (y := (vp_nar .boolean 1)) (j := 2) hk (vp_in_iff.mpr ⟨by decide, by decide⟩) (by decide) rfl dX12_hold_17 ?_
      refine g_iconst (v := 0) hk dX12_hold_18 (by decide) ?_
      refine g_istore_n (lv' := [(2, .int 0), (0, .ref (r 0)), (1, .int 2)]) hk dX12_hold_19 (by decide) rfl ?_
      have lp26888 : ∀ (n26890 k26889 : Nat), k26889 + n26890 = 165 → GW κ 3 0 0 (wM r g I (up2 (up3 A 27 2 (vp_nar .boolean 1)) 28 (cpo (A 17) ((up3 A 27 2 (vp_nar .boolean 1)) 28) (165 * 2) k26889)) L) 20 [(2, .int (nI k26889)), (0, .ref (r 0)), (1, .int 2)] [] := by
        intro n26890
        induction n26890 with
        | zero =>
          intro k26889 hk26889
          obtain rfl : k26889 = 165 := by omega
          show GW κ 3 0 0 (wM r g I (up2 (up3 A 27 2 (vp_nar .boolean 1)) 28 (cpo (A 17) ((up3 A 27 2 (vp_nar .boolean 1)) 28) (165 * 2) 165)) L) 20 [(2, .int 165), (0, .ref (r 0)), (1, .int 2)] []
          refine g_iload_n hk dX12_hold_20 rfl ?_
          refine g_sipush (v := 165) hk dX12_hold_21 (by decide) ?_
          refine g_icmp_ge (tgt := 51) (a := 165) (b := 165) hk dX12_hold_24 (by decide) rfl rfl (fun _ => ?_) (fun z9 => absurd (show (165 : Int) ≤ (165 : Int) from by decide) z9)
          refine g_iconst (v := 1) hk dX12_hold_51 (by decide) ?_
          exact g_iret hk hR rfl ⟨I, (up2 (up3 A 27 2 (vp_nar .boolean 1)) 28 (cpo (A 17) ((up3 A 27 2 (vp_nar .boolean 1)) 28) (165 * 2) 165)), L, (show Md [] I I from Md.rf), (show Md [27, 28] A (up2 (up3 A 27 2 (vp_nar .boolean 1)) 28 (cpo (A 17) ((up3 A 27 2 (vp_nar .boolean 1)) 28) (165 * 2) 165)) from (Md.up2 (Md.up3 Md.rf rfl) rfl)), ⟨(IvM_f1 (I := I) (A := A) hIv), (IvM_f2 (I := I) (A := A) hIv), (IvM_f3 (I := I) (A := A) hIv), (IvM_f4 (I := I) (A := A) hIv), (IvM_f6 (I := I) (A := A) hIv), (IvM_f8 (I := I) (A := A) hIv), (IvM_f15 (I := I) (A := A) hIv), (IvM_f16 (I := I) (A := A) hIv), (IvM_f17 (I := I) (A := A) hIv), (IvM_f18 (I := I) (A := A) hIv), (IvM_f22 (I := I) (A := A) hIv), (IvM_f23 (I := I) (A := A) hIv), (IvM_f24 (I := I) (A := A) hIv), (IvM_a11 (I := I) (A := A) hIv), (IvM_a26 (I := I) (A := A) hIv), (IvM_s8_0 (I := I) (A := A) hIv), (IvM_s8_1 (I := I) (A := A) hIv), (IvM_s10_0 (I := I) (A := A) hIv), (IvM_s10_1 (I := I) (A := A) hIv), (IvM_s17_0 (I := I) (A := A) hIv), (IvM_s17_164 (I := I) (A := A) hIv), (IvM_lv (I := I) (A := A) hIv), (IvM_sd (I := I) (A := A) hIv), (IvM_nq (I := I) (A := A) hIv), (IvM_hr (I := I) (A := A) hIv), (hh_cpo (IvM_hh (I := I) (A := A) hIv) ⟨(IvM_s17_0 (I := I) (A := A) hIv), (IvM_s17_164 (I := I) (A := A) hIv).1⟩), trivial⟩, 1, (by decide), (by decide), rfl, rfl⟩ dX12_hold_52
        | succ n26890 ih26892 =>
          intro k26889 hk26889
          obtain ⟨x26891, ex26891⟩ : ∃ x : Int32, x = nI k26889 := ⟨_, rfl⟩
          have hx26891 : x26891.toInt = (k26889 : Int) := by rw [ex26891]; exact nI_toInt (by omega)
          have cx26891 : x26891.toNatClampNeg = k26889 := cl_nat hx26891
          rw [← ex26891]
          refine g_iload_n hk dX12_hold_20 rfl ?_
          refine g_sipush (v := 165) hk dX12_hold_21 (by decide) ?_
          refine g_icmp_ge (tgt := 51) (a := x26891.toInt) (b := 165) hk dX12_hold_24 (by decide) rfl rfl (fun z9 => absurd z9 (show ¬ (165 ≤ x26891.toInt) from by omega)) (fun _ => ?_)
          refine g_aload_n hk dX12_hold_27 rfl ?_
          refine gM_r0_54 hk hin12 (List.mem_cons_of_mem _ (List.mem_append_left _ (List.mem_of_getElem? (i := 4) rfl))) dX12_hold_28 ?_
          refine g_sipush (v := 165) hk dX12_hold_31 (by decide) ?_
          refine g_iload_n hk dX12_hold_34 rfl ?_
          refine g_imul hk dX12_hold_35 ?_
          refine g_norm (v := 330) (by decide) ?_
          refine g_iload_n hk dX12_hold_36 rfl ?_
          refine g_iadd hk dX12_hold_37 ?_
          refine g_topi (fun y26893 ey26893 => ?_)
          have hy26893 : y26893.toInt = 330 + x26891.toInt := i32_add ey26893 rfl rfl (by omega) (by omega)
          refine g_aload_n hk dX12_hold_38 rfl ?_
          refine gM_r0_35 hk hin12 (List.mem_cons_of_mem _ (List.mem_append_left _ (List.mem_of_getElem? (i := 5) rfl))) dX12_hold_39 ?_
          refine g_iload_n hk dX12_hold_42 rfl ?_
          refine lM_17 (v := (A 17 x26891.toNatClampNeg)) hk (vp_in_iff.mpr ⟨by omega, by omega⟩) rfl dX12_hold_43 ?_
          refine sM_28 (j := y26893.toNatClampNeg) hk (vp_in_iff.mpr ⟨by omega, by omega⟩) rfl dX12_hold_44 ?_
          obtain ⟨y26894, ey26894⟩ : ∃ y : Int32, y = x26891 + Int32.ofInt 1 := ⟨_, rfl⟩
          have hy26894 : y26894.toInt = x26891.toInt + 1 := i32_add ey26894 rfl (by decide) (by omega) (by omega)
          refine g_iinc (v := y26894) (lv' := [(2, .int y26894), (0, .ref (r 0)), (1, .int 2)]) hk 0 dX12_hold_45 rfl ey26894.symm (by decide) rfl ?_
          refine g_goto (tgt := 20) hk dX12_hold_48 (by decide) ?_
          have q26895 := cl_int (y := x26891) (by omega)
          have q26896 := cl_int (y := y26893) (by omega)
          have eW : (up3 (up2 (up3 A 27 2 (vp_nar .boolean 1)) 28 (cpo (A 17) ((up3 A 27 2 (vp_nar .boolean 1)) 28) (165 * 2) k26889)) 28 (y26893.toNatClampNeg) (A 17 x26891.toNatClampNeg)) = (up2 (up3 A 27 2 (vp_nar .boolean 1)) 28 (cpo (A 17) ((up3 A 27 2 (vp_nar .boolean 1)) 28) (165 * 2) (k26889 + 1))) := cpo_st (by omega) (show (A 17 x26891.toNatClampNeg) = (A 17 k26889) from by rw [show x26891.toNatClampNeg = k26889 from by omega])
          have fy : y26894 = nI (k26889 + 1) := nI_of_toInt (by omega) (by omega)
          rw [eW, fy]
          exact g_lv (List.forall_mem_cons.mpr ⟨List.mem_of_getElem? (i := 0) rfl, (List.forall_mem_cons.mpr ⟨List.mem_of_getElem? (i := 1) rfl, (List.forall_mem_cons.mpr ⟨List.mem_of_getElem? (i := 2) rfl, (fun _ h => absurd h List.not_mem_nil)⟩)⟩)⟩) (ih26892 (k26889 + 1) (by omega))
      have lp26888e := lp26888 165 0 (by omega)
      rw [cpo_0] at lp26888e
      exact lp26888e
    exfalso; omega
