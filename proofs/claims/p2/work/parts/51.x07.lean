def wo_k304_X11_odd : List Cond := [Cond.methodLink RX11 196 yX11_isStretch, Cond.static yX11_isStretch, Cond.initialized RX11, Cond.fieldLink RX11 81 "WarpDesk" "stretches" "LWarpDesk$Stretches;", Cond.methodLink RX11 344 yX9_findOdd, Cond.instanceMethod yX9_findOdd, Cond.selects RX9 yX9_findOdd yX9_findOdd, Cond.initialized RX9, Cond.fieldLink RX11 350 "WarpDesk$Stretches" "oddDistance" "I", Cond.fieldLink RX11 347 "WarpDesk$Stretches" "oddWindow" "I"]
def wz_k304_X11_odd : List Cond := .code yX11_odd cX11_odd 3 (some .int) :: (wo_k304_X11_odd ++ (wsX90 ++ (wsX110 ++ (wz_k212_X11_isStretch ++ (wz_k305_X9_findOdd ++ ([] : List Cond))))))
theorem zg_k304_X11_odd : ∀ w ∈ wz_k304_X11_odd, goodWord w = true := zg_cons rfl (zg_app (by decide +kernel) (zg_app zgU_wsX90 (zg_app zgU_wsX110 (zg_app zg_k212_X11_isStretch (zg_app zg_k305_X9_findOdd zg_nil)))))
theorem zi_k304_X11_odd : ∀ w ∈ wz_k304_X11_odd, w ∈ lw_tbl := zi_cons zw_1300 (zi_app (zi_cons zw_926 (zi_cons zw_927 (zi_cons zw_103 (zi_cons zw_496 (zi_cons zw_1301 (zi_cons zw_1302 (zi_cons zw_1303 (zi_cons zw_114 (zi_cons zw_463 (zi_cons zw_461 zi_nil)))))))))) (zi_app inX9 (zi_app inX11 (zi_app zi_k212_X11_isStretch (zi_app zi_k305_X9_findOdd zi_nil)))))
set_option maxHeartbeats 4000000 in
set_option maxRecDepth 100000 in
theorem k304_X11_odd (l : Launch) (D : va_G) (zt : Nat × Nat × Nat × (Nat → Nat) × (Nat → Nat)) (q : Nat → Nat) (d : Nat → ClassId) (I : Nat → Int32) (A : Nat → Nat → Int32) (z1 : Int32) (z2 : Int32) (hIv : IvX I A) : GM l D zt (tyX d) yX11_odd wz_k304_X11_odd ({ frames := 6, cells := 0, slots := 0, locals := 140 } : Room) [.ref (q 0), .int z1, .int z2] (wX q d I A) (fun v _ w' => ∃ (I' : Nat → Int32) (A' : Nat → Nat → Int32), Md [28, 30, 31, 32, 33, 34, 38, 39, 43, 44] I I' ∧ Md [21, 22, 23, 30, 31] A A' ∧ IvX I' A' ∧ ∃ y0 : Int32, v = some (.int y0) ∧ w' = wX q d I' A') 0 0 := by
  refine GM.of (cc := cX11_odd) (maxL := 3) (ret := (some .int)) (own := RX11) (lv := [(0, .ref (q 0)), (1, .int z1), (2, .int z2)]) (by decide) rfl rfl (Nat.le_of_ble_eq_true rfl) rfl (fun κ sz hk hR hN => ?_)
  have hin9 : ∀ w ∈ u_ws RX9 TX9 11, w ∈ wz_k304_X11_odd := fun w h => (List.mem_cons_of_mem _ (List.mem_append_right _ (List.mem_append_left _ h)))
  have hin11 : ∀ w ∈ u_ws RX11 TX11 10, w ∈ wz_k304_X11_odd := fun w h => (List.mem_cons_of_mem _ (List.mem_append_right _ (List.mem_append_right _ (List.mem_append_left _ h))))
  refine g_iload_n hk dX11_odd_0 rfl ?_
  refine g_callS (n := 1) hk (k212_X11_isStretch l D zt q d I A z1 hIv) (SP.same _) (fun _ h => h) (gi_S (List.mem_cons_of_mem _ (List.mem_append_left _ (List.mem_of_getElem? (i := 0) rfl))) (List.mem_cons_of_mem _ (List.mem_append_left _ (List.mem_of_getElem? (i := 1) rfl))) (List.mem_cons_of_mem _ (List.mem_append_left _ (List.mem_of_getElem? (i := 2) rfl))) (gi_sub (fun w h => (List.mem_cons_of_mem _ (List.mem_append_right _ (List.mem_append_right _ (List.mem_append_right _ (List.mem_append_left _ h)))))) zg_k212_X11_isStretch)) rfl rfl rfl (by decide +kernel) ⟨Nat.le_of_ble_eq_true rfl, Nat.le_of_ble_eq_true rfl⟩ rfl rfl (Nat.le_of_ble_eq_true rfl) ⟨Nat.le_of_ble_eq_true rfl, Nat.le_of_ble_eq_true rfl⟩ dX11_odd_1 (fun v ty' w' hp hk' => ?_)
  rcases hp with ⟨rfl, rfl⟩ | ⟨c9415, c9416, c9417, c9418, rfl, rfl⟩
  · skip
    show GW κ 3 0 0 (wX q d I A) 4 [(0, .ref (q 0)), (1, .int z1), (2, .int z2)] [.int 0]
    refine g_if_eq (tgt := 16) (a := 0) hk dX11_odd_4 (by decide) rfl (fun _ => ?_) (fun z9 => absurd (show (0 : Int) = (0 : Int) from by decide) z9)
    refine g_iconst (v := (-1)) hk dX11_odd_16 (by decide) ?_
    exact g_iret hk hR rfl ⟨I, A, (show Md [28, 30, 31, 32, 33, 34, 38, 39, 43, 44] I I from Md.rf), (show Md [21, 22, 23, 30, 31] A A from Md.rf), hIv, (-1), rfl, rfl⟩ dX11_odd_17
  · skip
    show GW κ 3 0 0 (wX q d I A) 4 [(0, .ref (q 0)), (1, .int z1), (2, .int z2)] [.int 1]
    refine g_if_eq (tgt := 16) (a := 1) hk dX11_odd_4 (by decide) rfl (fun z9 => absurd z9 (show ¬ ((1 : Int) = (0 : Int)) from by decide)) (fun _ => ?_)
    refine g_iload_n hk dX11_odd_7 rfl ?_
    have b9420l := Int32.le_toInt z2
    have b9420h := Int32.toInt_lt z2
    refine g_if_lt (tgt := 16) (a := z2.toInt) hk dX11_odd_8 (by decide) rfl (fun c9421 => ?_) (fun c9421 => ?_)
    · skip
      refine g_iconst (v := (-1)) hk dX11_odd_16 (by decide) ?_
      exact g_iret hk hR rfl ⟨I, A, (show Md [28, 30, 31, 32, 33, 34, 38, 39, 43, 44] I I from Md.rf), (show Md [21, 22, 23, 30, 31] A A from Md.rf), hIv, (-1), rfl, rfl⟩ dX11_odd_17
    · skip
      refine g_iload_n hk dX11_odd_11 rfl ?_
      refine g_iconst (v := 1) hk dX11_odd_12 (by decide) ?_
      refine g_icmp_le (tgt := 18) (a := z2.toInt) (b := 1) hk dX11_odd_13 (by decide) rfl rfl (fun c9422 => ?_) (fun c9422 => ?_)
      · skip
        refine g_aload_n hk dX11_odd_18 rfl ?_
        refine gX_r0_9 hk hin11 (List.mem_cons_of_mem _ (List.mem_append_left _ (List.mem_of_getElem? (i := 3) rfl))) dX11_odd_19 ?_
        refine g_iload_n hk dX11_odd_22 rfl ?_
        refine g_callV (n := 1) hk (k305_X9_findOdd l D zt q d I A z1 hIv) (SP.same _) (fun _ h => h) (gi_V (List.mem_cons_of_mem _ (List.mem_append_left _ (List.mem_of_getElem? (i := 4) rfl))) (List.mem_cons_of_mem _ (List.mem_append_left _ (List.mem_of_getElem? (i := 5) rfl))) (List.mem_cons_of_mem _ (List.mem_append_left _ (List.mem_of_getElem? (i := 6) rfl))) (List.mem_cons_of_mem _ (List.mem_append_left _ (List.mem_of_getElem? (i := 7) rfl))) (gi_sub (fun w h => (List.mem_cons_of_mem _ (List.mem_append_right _ (List.mem_append_right _ (List.mem_append_right _ (List.mem_append_right _ (List.mem_append_left _ h))))))) zg_k305_X9_findOdd)) rfl rfl rfl (by decide +kernel) ⟨Nat.le_of_ble_eq_true rfl, Nat.le_of_ble_eq_true rfl⟩ 49 rfl rfl rfl rfl (Nat.le_of_ble_eq_true rfl) ⟨Nat.le_of_ble_eq_true rfl, Nat.le_of_ble_eq_true rfl⟩ dX11_odd_23 (fun v ty' w' hp hk' => ?_)
        obtain ⟨I9504, A9504, hI9504, hA9504, hV9504, rfl, rfl⟩ := hp
        show GW κ 3 0 0 (wX q d I9504 A9504) 26 [(0, .ref (q 0)), (1, .int z1), (2, .int z2)] []
        refine g_iload_n hk dX11_odd_26 rfl ?_
        refine g_if_ne (tgt := 40) (a := z2.toInt) hk dX11_odd_27 (by decide) rfl (fun c9505 => ?_) (fun c9505 => ?_)
        · skip
          refine g_aload_n hk dX11_odd_40 rfl ?_
          refine gX_r0_9 hk hin11 (List.mem_cons_of_mem _ (List.mem_append_left _ (List.mem_of_getElem? (i := 3) rfl))) dX11_odd_41 ?_
          refine gX_i44 (v := (I9504 44)) hk hin9 (List.mem_cons_of_mem _ (List.mem_append_left _ (List.mem_of_getElem? (i := 8) rfl))) dX11_odd_44 rfl ?_
          have b9506l := Int32.le_toInt (I9504 44)
          have b9506h := Int32.toInt_lt (I9504 44)
          exact g_iret hk hR rfl ⟨I9504, A9504, (show Md [28, 30, 31, 32, 33, 34, 38, 39, 43, 44] I I9504 from (Md.tr Md.rf hI9504 rfl)), (show Md [21, 22, 23, 30, 31] A A9504 from (Md.tr Md.rf hA9504 rfl)), hV9504, (I9504 44), rfl, rfl⟩ dX11_odd_47
        · skip
          refine g_aload_n hk dX11_odd_30 rfl ?_
          refine gX_r0_9 hk hin11 (List.mem_cons_of_mem _ (List.mem_append_left _ (List.mem_of_getElem? (i := 3) rfl))) dX11_odd_31 ?_
          refine gX_i43 (v := (I9504 43)) hk hin9 (List.mem_cons_of_mem _ (List.mem_append_left _ (List.mem_of_getElem? (i := 9) rfl))) dX11_odd_34 rfl ?_
          refine g_goto (tgt := 47) hk dX11_odd_37 (by decide) ?_
          have b9507l := Int32.le_toInt (I9504 43)
          have b9507h := Int32.toInt_lt (I9504 43)
          exact g_iret hk hR rfl ⟨I9504, A9504, (show Md [28, 30, 31, 32, 33, 34, 38, 39, 43, 44] I I9504 from (Md.tr Md.rf hI9504 rfl)), (show Md [21, 22, 23, 30, 31] A A9504 from (Md.tr Md.rf hA9504 rfl)), hV9504, (I9504 43), rfl, rfl⟩ dX11_odd_47
      · skip
        refine g_iconst (v := (-1)) hk dX11_odd_16 (by decide) ?_
        exact g_iret hk hR rfl ⟨I, A, (show Md [28, 30, 31, 32, 33, 34, 38, 39, 43, 44] I I from Md.rf), (show Md [21, 22, 23, 30, 31] A A from Md.rf), hIv, (-1), rfl, rfl⟩ dX11_odd_17
def wo_k307_X6_flatWindows : List Cond := [Cond.fieldLink RX6 19 "WarpDesk$Series" "size" "I", Cond.methodLink RX6 37 yX6_hasReading, Cond.instanceMethod yX6_hasReading, Cond.selects RX6 yX6_hasReading yX6_hasReading, Cond.initialized RX6, Cond.methodLink RX6 33 yX6_valueAt, Cond.instanceMethod yX6_valueAt, Cond.selects RX6 yX6_valueAt yX6_valueAt]
def wz_k307_X6_flatWindows : List Cond := .code yX6_flatWindows cX6_flatWindows 5 (some .int) :: (wo_k307_X6_flatWindows ++ (wsX60 ++ (wz_k188_X6_hasReading ++ (wz_k179_X6_valueAt ++ ([] : List Cond)))))
theorem zg_k307_X6_flatWindows : ∀ w ∈ wz_k307_X6_flatWindows, goodWord w = true := zg_cons rfl (zg_app (by decide +kernel) (zg_app zgU_wsX60 (zg_app zg_k188_X6_hasReading (zg_app zg_k179_X6_valueAt zg_nil))))
theorem zi_k307_X6_flatWindows : ∀ w ∈ wz_k307_X6_flatWindows, w ∈ lw_tbl := zi_cons zw_1312 (zi_app (zi_cons zw_282 (zi_cons zw_905 (zi_cons zw_840 (zi_cons zw_841 (zi_cons zw_109 (zi_cons zw_843 (zi_cons zw_807 (zi_cons zw_808 zi_nil)))))))) (zi_app inX6 (zi_app zi_k188_X6_hasReading (zi_app zi_k179_X6_valueAt zi_nil))))
set_option maxHeartbeats 4000000 in
set_option maxRecDepth 100000 in
theorem k307_X6_flatWindows (l : Launch) (D : va_G) (zt : Nat × Nat × Nat × (Nat → Nat) × (Nat → Nat)) (q : Nat → Nat) (d : Nat → ClassId) (I : Nat → Int32) (A : Nat → Nat → Int32) (z1 : Int32) (hIv : IvX I A) : GM l D zt (tyX d) yX6_flatWindows wz_k307_X6_flatWindows ({ frames := 2, cells := 0, slots := 0, locals := 42 } : Room) [.ref (q 13), .int z1] (wX q d I A) (fun v _ w' => ∃ y0 : Int32, v = some (.int y0) ∧ w' = wX q d I A) 0 0 := by
  refine GM.of (cc := cX6_flatWindows) (maxL := 5) (ret := (some .int)) (own := RX6) (lv := [(0, .ref (q 13)), (1, .int z1)]) (by decide) rfl rfl (Nat.le_of_ble_eq_true rfl) rfl (fun κ sz hk hR hN => ?_)
  have hin6 : ∀ w ∈ u_ws RX6 TX6 3, w ∈ wz_k307_X6_flatWindows := fun w h => (List.mem_cons_of_mem _ (List.mem_append_right _ (List.mem_append_left _ h)))
  refine g_iconst (v := 0) hk dX6_flatWindows_0 (by decide) ?_
  refine g_istore_n (lv' := [(2, .int 0), (0, .ref (q 13)), (1, .int z1)]) hk dX6_flatWindows_1 (by decide) rfl ?_
  refine g_iconst (v := 0) hk dX6_flatWindows_2 (by decide) ?_
  refine g_istore_n (lv' := [(3, .int 0), (2, .int 0), (0, .ref (q 13)), (1, .int z1)]) hk dX6_flatWindows_3 (by decide) rfl ?_
  refine g_iconst (v := 0) hk dX6_flatWindows_4 (by decide) ?_
  refine g_istore (lv' := [(4, .int 0), (3, .int 0), (2, .int 0), (0, .ref (q 13)), (1, .int z1)]) hk dX6_flatWindows_5 (by decide) rfl ?_
  have lp9676 : ∀ (n9677 : Nat) (x9511 : Int32) (x9512 : Int32) (x9513 : Int32), (0 ≤ x9511.toInt) → (x9511.toInt ≤ 160) → (161 - x9511.toInt < (n9677 : Int)) → (0 < n9677) → GW κ 5 0 0 (wX q d I A) 7 [(4, .int x9511), (3, .int x9512), (2, .int x9513), (0, .ref (q 13)), (1, .int z1)] [] := by
    intro n9677
    induction n9677 with
    | zero =>
      intro x9511 x9512 x9513 h9674 h9675 m9678 m9678z
      exact absurd m9678z (Nat.lt_irrefl 0)
    | succ n9677 ih9679 =>
      intro x9511 x9512 x9513 h9674 h9675 m9678 m9678z
      refine g_iload hk dX6_flatWindows_7 rfl ?_
      refine g_aload_n hk dX6_flatWindows_9 rfl ?_
      refine gX_i18 (v := (I 18)) hk hin6 (List.mem_cons_of_mem _ (List.mem_append_left _ (List.mem_of_getElem? (i := 0) rfl))) dX6_flatWindows_10 rfl ?_
      have f9680 := IvX_f18 hIv
      refine g_icmp_ge (tgt := 73) (a := x9511.toInt) (b := (I 18).toInt) hk dX6_flatWindows_13 (by decide) rfl rfl (fun c9681 => ?_) (fun c9681 => ?_)
      · skip
        refine g_iload_n hk dX6_flatWindows_73 rfl ?_
        have b9682l := Int32.le_toInt x9513
        have b9682h := Int32.toInt_lt x9513
        exact g_iret hk hR rfl ⟨x9513, rfl, rfl⟩ dX6_flatWindows_74
      · skip
        refine g_aload_n hk dX6_flatWindows_16 rfl ?_
        refine g_iload hk dX6_flatWindows_17 rfl ?_
        refine g_callV (n := 1) hk (k188_X6_hasReading l D zt q d I A x9511 hIv) (SP.same _) (fun _ h => h) (gi_V (List.mem_cons_of_mem _ (List.mem_append_left _ (List.mem_of_getElem? (i := 1) rfl))) (List.mem_cons_of_mem _ (List.mem_append_left _ (List.mem_of_getElem? (i := 2) rfl))) (List.mem_cons_of_mem _ (List.mem_append_left _ (List.mem_of_getElem? (i := 3) rfl))) (List.mem_cons_of_mem _ (List.mem_append_left _ (List.mem_of_getElem? (i := 4) rfl))) (gi_sub (fun w h => (List.mem_cons_of_mem _ (List.mem_append_right _ (List.mem_append_right _ (List.mem_append_left _ h))))) zg_k188_X6_hasReading)) rfl rfl rfl (by decide +kernel) ⟨Nat.le_of_ble_eq_true rfl, Nat.le_of_ble_eq_true rfl⟩ 13 rfl rfl rfl rfl (Nat.le_of_ble_eq_true rfl) ⟨Nat.le_of_ble_eq_true rfl, Nat.le_of_ble_eq_true rfl⟩ dX6_flatWindows_19 (fun v ty' w' hp hk' => ?_)
        rcases hp with ⟨rfl, rfl⟩ | ⟨rfl, rfl⟩
        · skip
          show GW κ 5 0 0 (wX q d I A) 22 [(4, .int x9511), (3, .int x9512), (2, .int x9513), (0, .ref (q 13)), (1, .int z1)] [.int 0]
          refine g_if_ne (tgt := 30) (a := 0) hk dX6_flatWindows_22 (by decide) rfl (fun z9 => absurd z9 (show ¬ ((0 : Int) ≠ (0 : Int)) from by decide)) (fun _ => ?_)
          refine g_iconst (v := 0) hk dX6_flatWindows_25 (by decide) ?_
          refine g_istore_n (lv' := [(3, .int 0), (4, .int x9511), (2, .int x9513), (0, .ref (q 13)), (1, .int z1)]) hk dX6_flatWindows_26 (by decide) rfl ?_
          refine g_goto (tgt := 59) hk dX6_flatWindows_27 (by decide) ?_
          refine g_iload_n hk dX6_flatWindows_59 rfl ?_
          refine g_iload_n hk dX6_flatWindows_60 rfl ?_
          have b9685l := Int32.le_toInt z1
          have b9685h := Int32.toInt_lt z1
          refine g_icmp_lt (tgt := 67) (a := 0) (b := z1.toInt) hk dX6_flatWindows_61 (by decide) rfl rfl (fun c9686 => ?_) (fun c9686 => ?_)
          · skip
            obtain ⟨y9687, ey9687⟩ : ∃ y : Int32, y = x9511 + Int32.ofInt 1 := ⟨_, rfl⟩
            have hy9687 : y9687.toInt = x9511.toInt + 1 := i32_add ey9687 rfl (by decide) (by omega) (by omega)
            refine g_iinc (v := y9687) (lv' := [(4, .int y9687), (3, .int 0), (2, .int x9513), (0, .ref (q 13)), (1, .int z1)]) hk 1 dX6_flatWindows_67 rfl ey9687.symm (by decide) rfl ?_
            refine g_goto (tgt := 7) hk dX6_flatWindows_70 (by decide) ?_
            have k9688 : (0 : Int32).toInt = 0 := rfl
            exact g_lv (List.forall_mem_cons.mpr ⟨List.mem_of_getElem? (i := 0) rfl, (List.forall_mem_cons.mpr ⟨List.mem_of_getElem? (i := 1) rfl, (List.forall_mem_cons.mpr ⟨List.mem_of_getElem? (i := 2) rfl, (List.forall_mem_cons.mpr ⟨List.mem_of_getElem? (i := 3) rfl, (List.forall_mem_cons.mpr ⟨List.mem_of_getElem? (i := 4) rfl, (fun _ h => absurd h List.not_mem_nil)⟩)⟩)⟩)⟩)⟩) (ih9679 y9687 0 x9513 (by omega) (by omega) (by omega) (by omega))
          · skip
            have b9689l := Int32.le_toInt x9513
            have b9689h := Int32.toInt_lt x9513
            obtain ⟨y9690, ey9690⟩ : ∃ y : Int32, y = x9513 + Int32.ofInt 1 := ⟨_, rfl⟩
            refine g_iinc (v := y9690) (lv' := [(2, .int y9690), (3, .int 0), (4, .int x9511), (0, .ref (q 13)), (1, .int z1)]) hk 2 dX6_flatWindows_64 rfl ey9690.symm (by decide) rfl ?_
            obtain ⟨y9691, ey9691⟩ : ∃ y : Int32, y = x9511 + Int32.ofInt 1 := ⟨_, rfl⟩
            have hy9691 : y9691.toInt = x9511.toInt + 1 := i32_add ey9691 rfl (by decide) (by omega) (by omega)
            refine g_iinc (v := y9691) (lv' := [(4, .int y9691), (2, .int y9690), (3, .int 0), (0, .ref (q 13)), (1, .int z1)]) hk 2 dX6_flatWindows_67 rfl ey9691.symm (by decide) rfl ?_
            refine g_goto (tgt := 7) hk dX6_flatWindows_70 (by decide) ?_
            have k9692 : (0 : Int32).toInt = 0 := rfl
            exact g_lv (List.forall_mem_cons.mpr ⟨List.mem_of_getElem? (i := 0) rfl, (List.forall_mem_cons.mpr ⟨List.mem_of_getElem? (i := 2) rfl, (List.forall_mem_cons.mpr ⟨List.mem_of_getElem? (i := 1) rfl, (List.forall_mem_cons.mpr ⟨List.mem_of_getElem? (i := 3) rfl, (List.forall_mem_cons.mpr ⟨List.mem_of_getElem? (i := 4) rfl, (fun _ h => absurd h List.not_mem_nil)⟩)⟩)⟩)⟩)⟩) (ih9679 y9691 0 y9690 (by omega) (by omega) (by omega) (by omega))
        · skip
          show GW κ 5 0 0 (wX q d I A) 22 [(4, .int x9511), (3, .int x9512), (2, .int x9513), (0, .ref (q 13)), (1, .int z1)] [.int 1]
          refine g_if_ne (tgt := 30) (a := 1) hk dX6_flatWindows_22 (by decide) rfl (fun _ => ?_) (fun z9 => absurd (show (1 : Int) ≠ (0 : Int) from by decide) z9)
          refine g_iload_n hk dX6_flatWindows_30 rfl ?_
          have b9693l := Int32.le_toInt x9512
          have b9693h := Int32.toInt_lt x9512
          refine g_if_le (tgt := 57) (a := x9512.toInt) hk dX6_flatWindows_31 (by decide) rfl (fun c9694 => ?_) (fun c9694 => ?_)
          · skip
            refine g_iconst (v := 1) hk dX6_flatWindows_57 (by decide) ?_
            refine g_istore_n (lv' := [(3, .int 1), (4, .int x9511), (2, .int x9513), (0, .ref (q 13)), (1, .int z1)]) hk dX6_flatWindows_58 (by decide) rfl ?_
            refine g_iload_n hk dX6_flatWindows_59 rfl ?_
            refine g_iload_n hk dX6_flatWindows_60 rfl ?_
            have b9695l := Int32.le_toInt z1
            have b9695h := Int32.toInt_lt z1
            refine g_icmp_lt (tgt := 67) (a := 1) (b := z1.toInt) hk dX6_flatWindows_61 (by decide) rfl rfl (fun c9696 => ?_) (fun c9696 => ?_)
            · skip
              obtain ⟨y9697, ey9697⟩ : ∃ y : Int32, y = x9511 + Int32.ofInt 1 := ⟨_, rfl⟩
              have hy9697 : y9697.toInt = x9511.toInt + 1 := i32_add ey9697 rfl (by decide) (by omega) (by omega)
              refine g_iinc (v := y9697) (lv' := [(4, .int y9697), (3, .int 1), (2, .int x9513), (0, .ref (q 13)), (1, .int z1)]) hk 1 dX6_flatWindows_67 rfl ey9697.symm (by decide) rfl ?_
              refine g_goto (tgt := 7) hk dX6_flatWindows_70 (by decide) ?_
              have k9698 : (1 : Int32).toInt = 1 := rfl
              exact g_lv (List.forall_mem_cons.mpr ⟨List.mem_of_getElem? (i := 0) rfl, (List.forall_mem_cons.mpr ⟨List.mem_of_getElem? (i := 1) rfl, (List.forall_mem_cons.mpr ⟨List.mem_of_getElem? (i := 2) rfl, (List.forall_mem_cons.mpr ⟨List.mem_of_getElem? (i := 3) rfl, (List.forall_mem_cons.mpr ⟨List.mem_of_getElem? (i := 4) rfl, (fun _ h => absurd h List.not_mem_nil)⟩)⟩)⟩)⟩)⟩) (ih9679 y9697 1 x9513 (by omega) (by omega) (by omega) (by omega))
            · skip
              have b9699l := Int32.le_toInt x9513
              have b9699h := Int32.toInt_lt x9513
              obtain ⟨y9700, ey9700⟩ : ∃ y : Int32, y = x9513 + Int32.ofInt 1 := ⟨_, rfl⟩
              refine g_iinc (v := y9700) (lv' := [(2, .int y9700), (3, .int 1), (4, .int x9511), (0, .ref (q 13)), (1, .int z1)]) hk 2 dX6_flatWindows_64 rfl ey9700.symm (by decide) rfl ?_
              obtain ⟨y9701, ey9701⟩ : ∃ y : Int32, y = x9511 + Int32.ofInt 1 := ⟨_, rfl⟩
              have hy9701 : y9701.toInt = x9511.toInt + 1 := i32_add ey9701 rfl (by decide) (by omega) (by omega)
              refine g_iinc (v := y9701) (lv' := [(4, .int y9701), (2, .int y9700), (3, .int 1), (0, .ref (q 13)), (1, .int z1)]) hk 2 dX6_flatWindows_67 rfl ey9701.symm (by decide) rfl ?_
              refine g_goto (tgt := 7) hk dX6_flatWindows_70 (by decide) ?_
              have k9702 : (1 : Int32).toInt = 1 := rfl
              exact g_lv (List.forall_mem_cons.mpr ⟨List.mem_of_getElem? (i := 0) rfl, (List.forall_mem_cons.mpr ⟨List.mem_of_getElem? (i := 2) rfl, (List.forall_mem_cons.mpr ⟨List.mem_of_getElem? (i := 1) rfl, (List.forall_mem_cons.mpr ⟨List.mem_of_getElem? (i := 3) rfl, (List.forall_mem_cons.mpr ⟨List.mem_of_getElem? (i := 4) rfl, (fun _ h => absurd h List.not_mem_nil)⟩)⟩)⟩)⟩)⟩) (ih9679 y9701 1 y9700 (by omega) (by omega) (by omega) (by omega))
          · skip
            refine g_aload_n hk dX6_flatWindows_34 rfl ?_
            refine g_iload hk dX6_flatWindows_35 rfl ?_
            refine g_callV (n := 1) hk (k179_X6_valueAt l D zt q d I A x9511 hIv) (SP.same _) (fun _ h => h) (gi_V (List.mem_cons_of_mem _ (List.mem_append_left _ (List.mem_of_getElem? (i := 5) rfl))) (List.mem_cons_of_mem _ (List.mem_append_left _ (List.mem_of_getElem? (i := 6) rfl))) (List.mem_cons_of_mem _ (List.mem_append_left _ (List.mem_of_getElem? (i := 7) rfl))) (List.mem_cons_of_mem _ (List.mem_append_left _ (List.mem_of_getElem? (i := 4) rfl))) (gi_sub (fun w h => (List.mem_cons_of_mem _ (List.mem_append_right _ (List.mem_append_right _ (List.mem_append_right _ (List.mem_append_left _ h)))))) zg_k179_X6_valueAt)) rfl rfl rfl (by decide +kernel) ⟨Nat.le_of_ble_eq_true rfl, Nat.le_of_ble_eq_true rfl⟩ 13 rfl rfl rfl rfl (Nat.le_of_ble_eq_true rfl) ⟨Nat.le_of_ble_eq_true rfl, Nat.le_of_ble_eq_true rfl⟩ dX6_flatWindows_37 (fun v ty' w' hp hk' => ?_)
            obtain ⟨y9703, rfl, rfl⟩ := hp
            show GW κ 5 0 0 (wX q d I A) 40 [(4, .int x9511), (3, .int x9512), (2, .int x9513), (0, .ref (q 13)), (1, .int z1)] [.int y9703]
            refine g_aload_n hk dX6_flatWindows_40 rfl ?_
            refine g_iload hk dX6_flatWindows_41 rfl ?_
            refine g_iconst (v := 1) hk dX6_flatWindows_43 (by decide) ?_
            refine g_isub hk dX6_flatWindows_44 ?_
            refine g_topi (fun y9704 ey9704 => ?_)
            have hy9704 : y9704.toInt = x9511.toInt - 1 := i32_sub ey9704 rfl rfl (by omega) (by omega)
            refine g_callV (n := 1) hk (k179_X6_valueAt l D zt q d I A y9704 hIv) (SP.same _) (fun _ h => h) (gi_V (List.mem_cons_of_mem _ (List.mem_append_left _ (List.mem_of_getElem? (i := 5) rfl))) (List.mem_cons_of_mem _ (List.mem_append_left _ (List.mem_of_getElem? (i := 6) rfl))) (List.mem_cons_of_mem _ (List.mem_append_left _ (List.mem_of_getElem? (i := 7) rfl))) (List.mem_cons_of_mem _ (List.mem_append_left _ (List.mem_of_getElem? (i := 4) rfl))) (gi_sub (fun w h => (List.mem_cons_of_mem _ (List.mem_append_right _ (List.mem_append_right _ (List.mem_append_right _ (List.mem_append_left _ h)))))) zg_k179_X6_valueAt)) rfl rfl rfl (by decide +kernel) ⟨Nat.le_of_ble_eq_true rfl, Nat.le_of_ble_eq_true rfl⟩ 13 rfl rfl rfl rfl (Nat.le_of_ble_eq_true rfl) ⟨Nat.le_of_ble_eq_true rfl, Nat.le_of_ble_eq_true rfl⟩ dX6_flatWindows_45 (fun v ty' w' hp hk' => ?_)
            obtain ⟨y9705, rfl, rfl⟩ := hp
            show GW κ 5 0 0 (wX q d I A) 48 [(4, .int x9511), (3, .int x9512), (2, .int x9513), (0, .ref (q 13)), (1, .int z1)] [.int y9705, .int y9703]
            have b9706l := Int32.le_toInt y9703
            have b9706h := Int32.toInt_lt y9703
            have b9707l := Int32.le_toInt y9705
            have b9707h := Int32.toInt_lt y9705
            refine g_icmp_ne (tgt := 57) (a := y9703.toInt) (b := y9705.toInt) hk dX6_flatWindows_48 (by decide) rfl rfl (fun c9708 => ?_) (fun c9708 => ?_)
            · skip
              refine g_iconst (v := 1) hk dX6_flatWindows_57 (by decide) ?_
              refine g_istore_n (lv' := [(3, .int 1), (4, .int x9511), (2, .int x9513), (0, .ref (q 13)), (1, .int z1)]) hk dX6_flatWindows_58 (by decide) rfl ?_
              refine g_iload_n hk dX6_flatWindows_59 rfl ?_
              refine g_iload_n hk dX6_flatWindows_60 rfl ?_
              have b9709l := Int32.le_toInt z1
              have b9709h := Int32.toInt_lt z1
              refine g_icmp_lt (tgt := 67) (a := 1) (b := z1.toInt) hk dX6_flatWindows_61 (by decide) rfl rfl (fun c9710 => ?_) (fun c9710 => ?_)
              · skip
                obtain ⟨y9711, ey9711⟩ : ∃ y : Int32, y = x9511 + Int32.ofInt 1 := ⟨_, rfl⟩
                have hy9711 : y9711.toInt = x9511.toInt + 1 := i32_add ey9711 rfl (by decide) (by omega) (by omega)
                refine g_iinc (v := y9711) (lv' := [(4, .int y9711), (3, .int 1), (2, .int x9513), (0, .ref (q 13)), (1, .int z1)]) hk 1 dX6_flatWindows_67 rfl ey9711.symm (by decide) rfl ?_
                refine g_goto (tgt := 7) hk dX6_flatWindows_70 (by decide) ?_
                have k9712 : (1 : Int32).toInt = 1 := rfl
                exact g_lv (List.forall_mem_cons.mpr ⟨List.mem_of_getElem? (i := 0) rfl, (List.forall_mem_cons.mpr ⟨List.mem_of_getElem? (i := 1) rfl, (List.forall_mem_cons.mpr ⟨List.mem_of_getElem? (i := 2) rfl, (List.forall_mem_cons.mpr ⟨List.mem_of_getElem? (i := 3) rfl, (List.forall_mem_cons.mpr ⟨List.mem_of_getElem? (i := 4) rfl, (fun _ h => absurd h List.not_mem_nil)⟩)⟩)⟩)⟩)⟩) (ih9679 y9711 1 x9513 (by omega) (by omega) (by omega) (by omega))
              · skip
                have b9713l := Int32.le_toInt x9513
                have b9713h := Int32.toInt_lt x9513
                obtain ⟨y9714, ey9714⟩ : ∃ y : Int32, y = x9513 + Int32.ofInt 1 := ⟨_, rfl⟩
                refine g_iinc (v := y9714) (lv' := [(2, .int y9714), (3, .int 1), (4, .int x9511), (0, .ref (q 13)), (1, .int z1)]) hk 2 dX6_flatWindows_64 rfl ey9714.symm (by decide) rfl ?_
                obtain ⟨y9715, ey9715⟩ : ∃ y : Int32, y = x9511 + Int32.ofInt 1 := ⟨_, rfl⟩
                have hy9715 : y9715.toInt = x9511.toInt + 1 := i32_add ey9715 rfl (by decide) (by omega) (by omega)
                refine g_iinc (v := y9715) (lv' := [(4, .int y9715), (2, .int y9714), (3, .int 1), (0, .ref (q 13)), (1, .int z1)]) hk 2 dX6_flatWindows_67 rfl ey9715.symm (by decide) rfl ?_
                refine g_goto (tgt := 7) hk dX6_flatWindows_70 (by decide) ?_
                have k9716 : (1 : Int32).toInt = 1 := rfl
                exact g_lv (List.forall_mem_cons.mpr ⟨List.mem_of_getElem? (i := 0) rfl, (List.forall_mem_cons.mpr ⟨List.mem_of_getElem? (i := 2) rfl, (List.forall_mem_cons.mpr ⟨List.mem_of_getElem? (i := 1) rfl, (List.forall_mem_cons.mpr ⟨List.mem_of_getElem? (i := 3) rfl, (List.forall_mem_cons.mpr ⟨List.mem_of_getElem? (i := 4) rfl, (fun _ h => absurd h List.not_mem_nil)⟩)⟩)⟩)⟩)⟩) (ih9679 y9715 1 y9714 (by omega) (by omega) (by omega) (by omega))
            · skip
              obtain ⟨y9717, ey9717⟩ : ∃ y : Int32, y = x9512 + Int32.ofInt 1 := ⟨_, rfl⟩
              refine g_iinc (v := y9717) (lv' := [(3, .int y9717), (4, .int x9511), (2, .int x9513), (0, .ref (q 13)), (1, .int z1)]) hk 1 dX6_flatWindows_51 rfl ey9717.symm (by decide) rfl ?_
              refine g_goto (tgt := 59) hk dX6_flatWindows_54 (by decide) ?_
              refine g_iload_n hk dX6_flatWindows_59 rfl ?_
              refine g_iload_n hk dX6_flatWindows_60 rfl ?_
              have b9718l := Int32.le_toInt y9717
              have b9718h := Int32.toInt_lt y9717
              have b9719l := Int32.le_toInt z1
              have b9719h := Int32.toInt_lt z1
              refine g_icmp_lt (tgt := 67) (a := y9717.toInt) (b := z1.toInt) hk dX6_flatWindows_61 (by decide) rfl rfl (fun c9720 => ?_) (fun c9720 => ?_)
              · skip
                obtain ⟨y9721, ey9721⟩ : ∃ y : Int32, y = x9511 + Int32.ofInt 1 := ⟨_, rfl⟩
                have hy9721 : y9721.toInt = x9511.toInt + 1 := i32_add ey9721 rfl (by decide) (by omega) (by omega)
                refine g_iinc (v := y9721) (lv' := [(4, .int y9721), (3, .int y9717), (2, .int x9513), (0, .ref (q 13)), (1, .int z1)]) hk 1 dX6_flatWindows_67 rfl ey9721.symm (by decide) rfl ?_
                refine g_goto (tgt := 7) hk dX6_flatWindows_70 (by decide) ?_
                exact g_lv (List.forall_mem_cons.mpr ⟨List.mem_of_getElem? (i := 0) rfl, (List.forall_mem_cons.mpr ⟨List.mem_of_getElem? (i := 1) rfl, (List.forall_mem_cons.mpr ⟨List.mem_of_getElem? (i := 2) rfl, (List.forall_mem_cons.mpr ⟨List.mem_of_getElem? (i := 3) rfl, (List.forall_mem_cons.mpr ⟨List.mem_of_getElem? (i := 4) rfl, (fun _ h => absurd h List.not_mem_nil)⟩)⟩)⟩)⟩)⟩) (ih9679 y9721 y9717 x9513 (by omega) (by omega) (by omega) (by omega))
              · skip
                have b9722l := Int32.le_toInt x9513
                have b9722h := Int32.toInt_lt x9513
                obtain ⟨y9723, ey9723⟩ : ∃ y : Int32, y = x9513 + Int32.ofInt 1 := ⟨_, rfl⟩
                refine g_iinc (v := y9723) (lv' := [(2, .int y9723), (3, .int y9717), (4, .int x9511), (0, .ref (q 13)), (1, .int z1)]) hk 2 dX6_flatWindows_64 rfl ey9723.symm (by decide) rfl ?_
                obtain ⟨y9724, ey9724⟩ : ∃ y : Int32, y = x9511 + Int32.ofInt 1 := ⟨_, rfl⟩
                have hy9724 : y9724.toInt = x9511.toInt + 1 := i32_add ey9724 rfl (by decide) (by omega) (by omega)
                refine g_iinc (v := y9724) (lv' := [(4, .int y9724), (2, .int y9723), (3, .int y9717), (0, .ref (q 13)), (1, .int z1)]) hk 2 dX6_flatWindows_67 rfl ey9724.symm (by decide) rfl ?_
                refine g_goto (tgt := 7) hk dX6_flatWindows_70 (by decide) ?_
                exact g_lv (List.forall_mem_cons.mpr ⟨List.mem_of_getElem? (i := 0) rfl, (List.forall_mem_cons.mpr ⟨List.mem_of_getElem? (i := 2) rfl, (List.forall_mem_cons.mpr ⟨List.mem_of_getElem? (i := 1) rfl, (List.forall_mem_cons.mpr ⟨List.mem_of_getElem? (i := 3) rfl, (List.forall_mem_cons.mpr ⟨List.mem_of_getElem? (i := 4) rfl, (fun _ h => absurd h List.not_mem_nil)⟩)⟩)⟩)⟩)⟩) (ih9679 y9724 y9717 y9723 (by omega) (by omega) (by omega) (by omega))
  have k9726 : (0 : Int32).toInt = 0 := rfl
  obtain ⟨n9725, n9725a, n9725b⟩ : ∃ n : Nat, 161 - 0 < (n : Int) ∧ 0 < n := ⟨((161 - 0 : Int)).toNat + 1, by omega, by omega⟩
  exact lp9676 n9725 0 0 0 (by omega) (by omega) n9725a n9725b
def wo_k306_X11_flat : List Cond := [Cond.fieldLink RX11 28 "WarpDesk" "series" "LWarpDesk$Series;", Cond.methodLink RX11 353 yX6_flatWindows, Cond.instanceMethod yX6_flatWindows, Cond.selects RX6 yX6_flatWindows yX6_flatWindows, Cond.initialized RX6]
def wz_k306_X11_flat : List Cond := .code yX11_flat cX11_flat 2 (some .int) :: (wo_k306_X11_flat ++ (wsX110 ++ (wz_k307_X6_flatWindows ++ ([] : List Cond))))
theorem zg_k306_X11_flat : ∀ w ∈ wz_k306_X11_flat, goodWord w = true := zg_cons rfl (zg_app (by decide +kernel) (zg_app zgU_wsX110 (zg_app zg_k307_X6_flatWindows zg_nil)))
theorem zi_k306_X11_flat : ∀ w ∈ wz_k306_X11_flat, w ∈ lw_tbl := zi_cons zw_1308 (zi_app (zi_cons zw_489 (zi_cons zw_1309 (zi_cons zw_1310 (zi_cons zw_1311 (zi_cons zw_109 zi_nil))))) (zi_app inX11 (zi_app zi_k307_X6_flatWindows zi_nil)))
set_option maxHeartbeats 4000000 in
set_option maxRecDepth 100000 in
theorem k306_X11_flat (l : Launch) (D : va_G) (zt : Nat × Nat × Nat × (Nat → Nat) × (Nat → Nat)) (q : Nat → Nat) (d : Nat → ClassId) (I : Nat → Int32) (A : Nat → Nat → Int32) (z1 : Int32) (hIv : IvX I A) : GM l D zt (tyX d) yX11_flat wz_k306_X11_flat ({ frames := 3, cells := 0, slots := 0, locals := 66 } : Room) [.ref (q 0), .int z1] (wX q d I A) (fun v _ w' => ∃ y0 : Int32, v = some (.int y0) ∧ w' = wX q d I A) 0 0 := by
  refine GM.of (cc := cX11_flat) (maxL := 2) (ret := (some .int)) (own := RX11) (lv := [(0, .ref (q 0)), (1, .int z1)]) (by decide) rfl rfl (Nat.le_of_ble_eq_true rfl) rfl (fun κ sz hk hR hN => ?_)
  have hin11 : ∀ w ∈ u_ws RX11 TX11 10, w ∈ wz_k306_X11_flat := fun w h => (List.mem_cons_of_mem _ (List.mem_append_right _ (List.mem_append_left _ h)))
  refine g_iload_n hk dX11_flat_0 rfl ?_
  refine g_iconst (v := 1) hk dX11_flat_1 (by decide) ?_
  have b9508l := Int32.le_toInt z1
  have b9508h := Int32.toInt_lt z1
  refine g_icmp_lt (tgt := 12) (a := z1.toInt) (b := 1) hk dX11_flat_2 (by decide) rfl rfl (fun c9509 => ?_) (fun c9509 => ?_)
  · skip
    refine g_iconst (v := (-1)) hk dX11_flat_12 (by decide) ?_
    refine g_goto (tgt := 24) hk dX11_flat_13 (by decide) ?_
    exact g_iret hk hR rfl ⟨(-1), rfl, rfl⟩ dX11_flat_24
  · skip
    refine g_iload_n hk dX11_flat_5 rfl ?_
    refine g_sipush (v := 160) hk dX11_flat_6 (by decide) ?_
    refine g_icmp_le (tgt := 16) (a := z1.toInt) (b := 160) hk dX11_flat_9 (by decide) rfl rfl (fun c9510 => ?_) (fun c9510 => ?_)
    · skip
      refine g_aload_n hk dX11_flat_16 rfl ?_
      refine gX_r0_2 hk hin11 (List.mem_cons_of_mem _ (List.mem_append_left _ (List.mem_of_getElem? (i := 0) rfl))) dX11_flat_17 ?_
      refine g_iload_n hk dX11_flat_20 rfl ?_
      refine g_callV (n := 1) hk (k307_X6_flatWindows l D zt q d I A z1 hIv) (SP.same _) (fun _ h => h) (gi_V (List.mem_cons_of_mem _ (List.mem_append_left _ (List.mem_of_getElem? (i := 1) rfl))) (List.mem_cons_of_mem _ (List.mem_append_left _ (List.mem_of_getElem? (i := 2) rfl))) (List.mem_cons_of_mem _ (List.mem_append_left _ (List.mem_of_getElem? (i := 3) rfl))) (List.mem_cons_of_mem _ (List.mem_append_left _ (List.mem_of_getElem? (i := 4) rfl))) (gi_sub (fun w h => (List.mem_cons_of_mem _ (List.mem_append_right _ (List.mem_append_right _ (List.mem_append_left _ h))))) zg_k307_X6_flatWindows)) rfl rfl rfl (by decide +kernel) ⟨Nat.le_of_ble_eq_true rfl, Nat.le_of_ble_eq_true rfl⟩ 13 rfl rfl rfl rfl (Nat.le_of_ble_eq_true rfl) ⟨Nat.le_of_ble_eq_true rfl, Nat.le_of_ble_eq_true rfl⟩ dX11_flat_21 (fun v ty' w' hp hk' => ?_)
      obtain ⟨y9727, rfl, rfl⟩ := hp
      show GW κ 2 0 0 (wX q d I A) 24 [(0, .ref (q 0)), (1, .int z1)] [.int y9727]
      have b9728l := Int32.le_toInt y9727
      have b9728h := Int32.toInt_lt y9727
      exact g_iret hk hR rfl ⟨y9727, rfl, rfl⟩ dX11_flat_24
    · skip
      refine g_iconst (v := (-1)) hk dX11_flat_12 (by decide) ?_
      refine g_goto (tgt := 24) hk dX11_flat_13 (by decide) ?_
      exact g_iret hk hR rfl ⟨(-1), rfl, rfl⟩ dX11_flat_24
def wo_k310_X6_runFrom : List Cond := [Cond.fieldLink RX6 19 "WarpDesk$Series" "size" "I", Cond.methodLink RX6 37 yX6_hasReading, Cond.instanceMethod yX6_hasReading, Cond.selects RX6 yX6_hasReading yX6_hasReading, Cond.initialized RX6]
def wz_k310_X6_runFrom : List Cond := .code yX6_runFrom cX6_runFrom 4 (some .int) :: (wo_k310_X6_runFrom ++ (wsX60 ++ (wz_k188_X6_hasReading ++ ([] : List Cond))))
theorem zg_k310_X6_runFrom : ∀ w ∈ wz_k310_X6_runFrom, goodWord w = true := zg_cons rfl (zg_app (by decide +kernel) (zg_app zgU_wsX60 (zg_app zg_k188_X6_hasReading zg_nil)))
theorem zi_k310_X6_runFrom : ∀ w ∈ wz_k310_X6_runFrom, w ∈ lw_tbl := zi_cons zw_1324 (zi_app (zi_cons zw_282 (zi_cons zw_905 (zi_cons zw_840 (zi_cons zw_841 (zi_cons zw_109 zi_nil))))) (zi_app inX6 (zi_app zi_k188_X6_hasReading zi_nil)))
set_option maxHeartbeats 4000000 in
set_option maxRecDepth 100000 in
theorem k310_X6_runFrom (l : Launch) (D : va_G) (zt : Nat × Nat × Nat × (Nat → Nat) × (Nat → Nat)) (q : Nat → Nat) (d : Nat → ClassId) (I : Nat → Int32) (A : Nat → Nat → Int32) (z1 : Int32) (hIv : IvX I A) : GM l D zt (tyX d) yX6_runFrom wz_k310_X6_runFrom ({ frames := 2, cells := 0, slots := 0, locals := 42 } : Room) [.ref (q 13), .int z1] (wX q d I A) (fun v _ w' => ∃ y0 : Int32, v = some (.int y0) ∧ w' = wX q d I A) 0 0 := by
  refine GM.of (cc := cX6_runFrom) (maxL := 4) (ret := (some .int)) (own := RX6) (lv := [(0, .ref (q 13)), (1, .int z1)]) (by decide) rfl rfl (Nat.le_of_ble_eq_true rfl) rfl (fun κ sz hk hR hN => ?_)
  have hin6 : ∀ w ∈ u_ws RX6 TX6 3, w ∈ wz_k310_X6_runFrom := fun w h => (List.mem_cons_of_mem _ (List.mem_append_right _ (List.mem_append_left _ h)))
  refine g_iconst (v := 0) hk dX6_runFrom_0 (by decide) ?_
  refine g_istore_n (lv' := [(2, .int 0), (0, .ref (q 13)), (1, .int z1)]) hk dX6_runFrom_1 (by decide) rfl ?_
  refine g_iload_n hk dX6_runFrom_2 rfl ?_
  refine g_istore_n (lv' := [(3, .int z1), (2, .int 0), (0, .ref (q 13)), (1, .int z1)]) hk dX6_runFrom_3 (by decide) rfl ?_
  have lp9773 : ∀ (n9774 : Nat) (x9739 : Int32) (x9740 : Int32), (161 - x9739.toInt < (n9774 : Int)) → (0 < n9774) → GW κ 4 0 0 (wX q d I A) 4 [(3, .int x9739), (2, .int x9740), (0, .ref (q 13)), (1, .int z1)] [] := by
    intro n9774
    induction n9774 with
    | zero =>
      intro x9739 x9740 m9775 m9775z
      exact absurd m9775z (Nat.lt_irrefl 0)
    | succ n9774 ih9776 =>
      intro x9739 x9740 m9775 m9775z
      refine g_iload_n hk dX6_runFrom_4 rfl ?_
      refine g_aload_n hk dX6_runFrom_5 rfl ?_
      refine gX_i18 (v := (I 18)) hk hin6 (List.mem_cons_of_mem _ (List.mem_append_left _ (List.mem_of_getElem? (i := 0) rfl))) dX6_runFrom_6 rfl ?_
      have f9777 := IvX_f18 hIv
      have b9778l := Int32.le_toInt x9739
      have b9778h := Int32.toInt_lt x9739
      refine g_icmp_ge (tgt := 29) (a := x9739.toInt) (b := (I 18).toInt) hk dX6_runFrom_9 (by decide) rfl rfl (fun c9779 => ?_) (fun c9779 => ?_)
      · skip
        refine g_iload_n hk dX6_runFrom_29 rfl ?_
        have b9780l := Int32.le_toInt x9740
        have b9780h := Int32.toInt_lt x9740
        exact g_iret hk hR rfl ⟨x9740, rfl, rfl⟩ dX6_runFrom_30
      · skip
        refine g_aload_n hk dX6_runFrom_12 rfl ?_
        refine g_iload_n hk dX6_runFrom_13 rfl ?_
        refine g_callV (n := 1) hk (k188_X6_hasReading l D zt q d I A x9739 hIv) (SP.same _) (fun _ h => h) (gi_V (List.mem_cons_of_mem _ (List.mem_append_left _ (List.mem_of_getElem? (i := 1) rfl))) (List.mem_cons_of_mem _ (List.mem_append_left _ (List.mem_of_getElem? (i := 2) rfl))) (List.mem_cons_of_mem _ (List.mem_append_left _ (List.mem_of_getElem? (i := 3) rfl))) (List.mem_cons_of_mem _ (List.mem_append_left _ (List.mem_of_getElem? (i := 4) rfl))) (gi_sub (fun w h => (List.mem_cons_of_mem _ (List.mem_append_right _ (List.mem_append_right _ (List.mem_append_left _ h))))) zg_k188_X6_hasReading)) rfl rfl rfl (by decide +kernel) ⟨Nat.le_of_ble_eq_true rfl, Nat.le_of_ble_eq_true rfl⟩ 13 rfl rfl rfl rfl (Nat.le_of_ble_eq_true rfl) ⟨Nat.le_of_ble_eq_true rfl, Nat.le_of_ble_eq_true rfl⟩ dX6_runFrom_14 (fun v ty' w' hp hk' => ?_)
        rcases hp with ⟨rfl, rfl⟩ | ⟨rfl, rfl⟩
        · skip
          show GW κ 4 0 0 (wX q d I A) 17 [(3, .int x9739), (2, .int x9740), (0, .ref (q 13)), (1, .int z1)] [.int 0]
          refine g_if_eq (tgt := 29) (a := 0) hk dX6_runFrom_17 (by decide) rfl (fun _ => ?_) (fun z9 => absurd (show (0 : Int) = (0 : Int) from by decide) z9)
          refine g_iload_n hk dX6_runFrom_29 rfl ?_
          have b9783l := Int32.le_toInt x9740
          have b9783h := Int32.toInt_lt x9740
          exact g_iret hk hR rfl ⟨x9740, rfl, rfl⟩ dX6_runFrom_30
        · skip
          show GW κ 4 0 0 (wX q d I A) 17 [(3, .int x9739), (2, .int x9740), (0, .ref (q 13)), (1, .int z1)] [.int 1]
          refine g_if_eq (tgt := 29) (a := 1) hk dX6_runFrom_17 (by decide) rfl (fun z9 => absurd z9 (show ¬ ((1 : Int) = (0 : Int)) from by decide)) (fun _ => ?_)
          have b9784l := Int32.le_toInt x9740
          have b9784h := Int32.toInt_lt x9740
          obtain ⟨y9785, ey9785⟩ : ∃ y : Int32, y = x9740 + Int32.ofInt 1 := ⟨_, rfl⟩
          refine g_iinc (v := y9785) (lv' := [(2, .int y9785), (3, .int x9739), (0, .ref (q 13)), (1, .int z1)]) hk 1 dX6_runFrom_20 rfl ey9785.symm (by decide) rfl ?_
          obtain ⟨y9786, ey9786⟩ : ∃ y : Int32, y = x9739 + Int32.ofInt 1 := ⟨_, rfl⟩
          have hy9786 : y9786.toInt = x9739.toInt + 1 := i32_add ey9786 rfl (by decide) (by omega) (by omega)
          refine g_iinc (v := y9786) (lv' := [(3, .int y9786), (2, .int y9785), (0, .ref (q 13)), (1, .int z1)]) hk 1 dX6_runFrom_23 rfl ey9786.symm (by decide) rfl ?_
          refine g_goto (tgt := 4) hk dX6_runFrom_26 (by decide) ?_
          exact g_lv (List.forall_mem_cons.mpr ⟨List.mem_of_getElem? (i := 0) rfl, (List.forall_mem_cons.mpr ⟨List.mem_of_getElem? (i := 1) rfl, (List.forall_mem_cons.mpr ⟨List.mem_of_getElem? (i := 2) rfl, (List.forall_mem_cons.mpr ⟨List.mem_of_getElem? (i := 3) rfl, (fun _ h => absurd h List.not_mem_nil)⟩)⟩)⟩)⟩) (ih9776 y9786 y9785 (by omega) (by omega))
  have k9788 : (0 : Int32).toInt = 0 := rfl
  have b9789l := Int32.le_toInt z1
  have b9789h := Int32.toInt_lt z1
  obtain ⟨n9787, n9787a, n9787b⟩ : ∃ n : Nat, 161 - z1.toInt < (n : Int) ∧ 0 < n := ⟨((161 - z1.toInt : Int)).toNat + 1, by omega, by omega⟩
  exact lp9773 n9787 z1 0 n9787a n9787b
def wo_k309_X6_longestRunFirst : List Cond := [Cond.fieldLink RX6 19 "WarpDesk$Series" "size" "I", Cond.methodLink RX6 46 yX6_runFrom, Cond.instanceMethod yX6_runFrom, Cond.selects RX6 yX6_runFrom yX6_runFrom, Cond.initialized RX6]
def wz_k309_X6_longestRunFirst : List Cond := .code yX6_longestRunFirst cX6_longestRunFirst 5 (some .int) :: (wo_k309_X6_longestRunFirst ++ (wsX60 ++ (wz_k310_X6_runFrom ++ ([] : List Cond))))
theorem zg_k309_X6_longestRunFirst : ∀ w ∈ wz_k309_X6_longestRunFirst, goodWord w = true := zg_cons rfl (zg_app (by decide +kernel) (zg_app zgU_wsX60 (zg_app zg_k310_X6_runFrom zg_nil)))
theorem zi_k309_X6_longestRunFirst : ∀ w ∈ wz_k309_X6_longestRunFirst, w ∈ lw_tbl := zi_cons zw_1320 (zi_app (zi_cons zw_282 (zi_cons zw_1321 (zi_cons zw_1322 (zi_cons zw_1323 (zi_cons zw_109 zi_nil))))) (zi_app inX6 (zi_app zi_k310_X6_runFrom zi_nil)))
set_option maxHeartbeats 4000000 in
set_option maxRecDepth 100000 in
theorem k309_X6_longestRunFirst (l : Launch) (D : va_G) (zt : Nat × Nat × Nat × (Nat → Nat) × (Nat → Nat)) (q : Nat → Nat) (d : Nat → ClassId) (I : Nat → Int32) (A : Nat → Nat → Int32) (hIv : IvX I A) : GM l D zt (tyX d) yX6_longestRunFirst wz_k309_X6_longestRunFirst ({ frames := 3, cells := 0, slots := 0, locals := 65 } : Room) [.ref (q 13)] (wX q d I A) (fun v _ w' => ∃ y0 : Int32, ((-2) ≤ y0.toInt) ∧ (y0.toInt ≤ 159) ∧ v = some (.int y0) ∧ w' = wX q d I A) 0 0 := by
  refine GM.of (cc := cX6_longestRunFirst) (maxL := 5) (ret := (some .int)) (own := RX6) (lv := [(0, .ref (q 13))]) (by decide) rfl rfl (Nat.le_of_ble_eq_true rfl) rfl (fun κ sz hk hR hN => ?_)
  have hin6 : ∀ w ∈ u_ws RX6 TX6 3, w ∈ wz_k309_X6_longestRunFirst := fun w h => (List.mem_cons_of_mem _ (List.mem_append_right _ (List.mem_append_left _ h)))
  refine g_bipush (v := (-2)) hk dX6_longestRunFirst_0 (by decide) ?_
  refine g_istore_n (lv' := [(1, .int (-2)), (0, .ref (q 13))]) hk dX6_longestRunFirst_2 (by decide) rfl ?_
  refine g_iconst (v := 0) hk dX6_longestRunFirst_3 (by decide) ?_
  refine g_istore_n (lv' := [(2, .int 0), (1, .int (-2)), (0, .ref (q 13))]) hk dX6_longestRunFirst_4 (by decide) rfl ?_
  refine g_iconst (v := 0) hk dX6_longestRunFirst_5 (by decide) ?_
  refine g_istore_n (lv' := [(3, .int 0), (2, .int 0), (1, .int (-2)), (0, .ref (q 13))]) hk dX6_longestRunFirst_6 (by decide) rfl ?_
  have lp9833 : ∀ (n9834 : Nat) (x9732 : Int32) (x9733 : Int32) (x9734 : Int32), (0 ≤ x9732.toInt) → (x9732.toInt ≤ 160) → (0 ≤ x9733.toInt) → ((-2) ≤ x9734.toInt) → (x9734.toInt ≤ 159) → (161 - x9732.toInt < (n9834 : Int)) → (0 < n9834) → GW κ 5 0 0 (wX q d I A) 7 [(3, .int x9732), (2, .int x9733), (1, .int x9734), (0, .ref (q 13))] [] := by
    intro n9834
    induction n9834 with
    | zero =>
      intro x9732 x9733 x9734 h9828 h9829 h9830 h9831 h9832 m9835 m9835z
      exact absurd m9835z (Nat.lt_irrefl 0)
    | succ n9834 ih9836 =>
      intro x9732 x9733 x9734 h9828 h9829 h9830 h9831 h9832 m9835 m9835z
      refine g_iload_n hk dX6_longestRunFirst_7 rfl ?_
      refine g_aload_n hk dX6_longestRunFirst_8 rfl ?_
      refine gX_i18 (v := (I 18)) hk hin6 (List.mem_cons_of_mem _ (List.mem_append_left _ (List.mem_of_getElem? (i := 0) rfl))) dX6_longestRunFirst_9 rfl ?_
      have f9837 := IvX_f18 hIv
      refine g_icmp_ge (tgt := 39) (a := x9732.toInt) (b := (I 18).toInt) hk dX6_longestRunFirst_12 (by decide) rfl rfl (fun c9838 => ?_) (fun c9838 => ?_)
      · skip
        refine g_iload_n hk dX6_longestRunFirst_39 rfl ?_
        exact g_iret hk hR rfl ⟨x9734, (by omega), (by omega), rfl, rfl⟩ dX6_longestRunFirst_40
      · skip
        refine g_aload_n hk dX6_longestRunFirst_15 rfl ?_
        refine g_iload_n hk dX6_longestRunFirst_16 rfl ?_
        refine g_callV (n := 1) hk (k310_X6_runFrom l D zt q d I A x9732 hIv) (SP.same _) (fun _ h => h) (gi_V (List.mem_cons_of_mem _ (List.mem_append_left _ (List.mem_of_getElem? (i := 1) rfl))) (List.mem_cons_of_mem _ (List.mem_append_left _ (List.mem_of_getElem? (i := 2) rfl))) (List.mem_cons_of_mem _ (List.mem_append_left _ (List.mem_of_getElem? (i := 3) rfl))) (List.mem_cons_of_mem _ (List.mem_append_left _ (List.mem_of_getElem? (i := 4) rfl))) (gi_sub (fun w h => (List.mem_cons_of_mem _ (List.mem_append_right _ (List.mem_append_right _ (List.mem_append_left _ h))))) zg_k310_X6_runFrom)) rfl rfl rfl (by decide +kernel) ⟨Nat.le_of_ble_eq_true rfl, Nat.le_of_ble_eq_true rfl⟩ 13 rfl rfl rfl rfl (Nat.le_of_ble_eq_true rfl) ⟨Nat.le_of_ble_eq_true rfl, Nat.le_of_ble_eq_true rfl⟩ dX6_longestRunFirst_17 (fun v ty' w' hp hk' => ?_)
        obtain ⟨y9839, rfl, rfl⟩ := hp
        show GW κ 5 0 0 (wX q d I A) 20 [(3, .int x9732), (2, .int x9733), (1, .int x9734), (0, .ref (q 13))] [.int y9839]
        refine g_istore (lv' := [(4, .int y9839), (3, .int x9732), (2, .int x9733), (1, .int x9734), (0, .ref (q 13))]) hk dX6_longestRunFirst_20 (by decide) rfl ?_
        refine g_iload hk dX6_longestRunFirst_22 rfl ?_
        refine g_iload_n hk dX6_longestRunFirst_24 rfl ?_
        have b9840l := Int32.le_toInt y9839
        have b9840h := Int32.toInt_lt y9839
        have b9841l := Int32.le_toInt x9733
        have b9841h := Int32.toInt_lt x9733
        refine g_icmp_le (tgt := 33) (a := y9839.toInt) (b := x9733.toInt) hk dX6_longestRunFirst_25 (by decide) rfl rfl (fun c9842 => ?_) (fun c9842 => ?_)
        · skip
          obtain ⟨y9843, ey9843⟩ : ∃ y : Int32, y = x9732 + Int32.ofInt 1 := ⟨_, rfl⟩
          have hy9843 : y9843.toInt = x9732.toInt + 1 := i32_add ey9843 rfl (by decide) (by omega) (by omega)
          refine g_iinc (v := y9843) (lv' := [(3, .int y9843), (4, .int y9839), (2, .int x9733), (1, .int x9734), (0, .ref (q 13))]) hk 1 dX6_longestRunFirst_33 rfl ey9843.symm (by decide) rfl ?_
          refine g_goto (tgt := 7) hk dX6_longestRunFirst_36 (by decide) ?_
          exact g_lv (List.forall_mem_cons.mpr ⟨List.mem_of_getElem? (i := 0) rfl, (List.forall_mem_cons.mpr ⟨List.mem_of_getElem? (i := 2) rfl, (List.forall_mem_cons.mpr ⟨List.mem_of_getElem? (i := 3) rfl, (List.forall_mem_cons.mpr ⟨List.mem_of_getElem? (i := 4) rfl, (fun _ h => absurd h List.not_mem_nil)⟩)⟩)⟩)⟩) (ih9836 y9843 x9733 x9734 (by omega) (by omega) (by omega) (by omega) (by omega) (by omega) (by omega))
        · skip
          refine g_iload hk dX6_longestRunFirst_28 rfl ?_
          refine g_istore_n (lv' := [(2, .int y9839), (4, .int y9839), (3, .int x9732), (1, .int x9734), (0, .ref (q 13))]) hk dX6_longestRunFirst_30 (by decide) rfl ?_
          refine g_iload_n hk dX6_longestRunFirst_31 rfl ?_
          refine g_istore_n (lv' := [(1, .int x9732), (2, .int y9839), (4, .int y9839), (3, .int x9732), (0, .ref (q 13))]) hk dX6_longestRunFirst_32 (by decide) rfl ?_
          obtain ⟨y9844, ey9844⟩ : ∃ y : Int32, y = x9732 + Int32.ofInt 1 := ⟨_, rfl⟩
          have hy9844 : y9844.toInt = x9732.toInt + 1 := i32_add ey9844 rfl (by decide) (by omega) (by omega)
          refine g_iinc (v := y9844) (lv' := [(3, .int y9844), (1, .int x9732), (2, .int y9839), (4, .int y9839), (0, .ref (q 13))]) hk 3 dX6_longestRunFirst_33 rfl ey9844.symm (by decide) rfl ?_
          refine g_goto (tgt := 7) hk dX6_longestRunFirst_36 (by decide) ?_
          exact g_lv (List.forall_mem_cons.mpr ⟨List.mem_of_getElem? (i := 0) rfl, (List.forall_mem_cons.mpr ⟨List.mem_of_getElem? (i := 2) rfl, (List.forall_mem_cons.mpr ⟨List.mem_of_getElem? (i := 1) rfl, (List.forall_mem_cons.mpr ⟨List.mem_of_getElem? (i := 4) rfl, (fun _ h => absurd h List.not_mem_nil)⟩)⟩)⟩)⟩) (ih9836 y9844 y9839 x9732 (by omega) (by omega) (by omega) (by omega) (by omega) (by omega) (by omega))
  have k9846 : (0 : Int32).toInt = 0 := rfl
  have k9847 : ((-2) : Int32).toInt = (-2) := rfl
  obtain ⟨n9845, n9845a, n9845b⟩ : ∃ n : Nat, 161 - 0 < (n : Int) ∧ 0 < n := ⟨((161 - 0 : Int)).toNat + 1, by omega, by omega⟩
  exact lp9833 n9845 0 0 (-2) (by omega) (by omega) (by omega) (by omega) (by omega) n9845a n9845b
def wo_k308_X11_whole : List Cond := [Cond.fieldLink RX11 28 "WarpDesk" "series" "LWarpDesk$Series;", Cond.methodLink RX11 356 yX6_longestRunFirst, Cond.instanceMethod yX6_longestRunFirst, Cond.selects RX6 yX6_longestRunFirst yX6_longestRunFirst, Cond.initialized RX6, Cond.methodLink RX11 359 yX6_runFrom, Cond.instanceMethod yX6_runFrom, Cond.selects RX6 yX6_runFrom yX6_runFrom]
def wz_k308_X11_whole : List Cond := .code yX11_whole cX11_whole 3 (some .int) :: (wo_k308_X11_whole ++ (wsX110 ++ (wz_k309_X6_longestRunFirst ++ (wz_k310_X6_runFrom ++ ([] : List Cond)))))
theorem zg_k308_X11_whole : ∀ w ∈ wz_k308_X11_whole, goodWord w = true := zg_cons rfl (zg_app (by decide +kernel) (zg_app zgU_wsX110 (zg_app zg_k309_X6_longestRunFirst (zg_app zg_k310_X6_runFrom zg_nil))))
theorem zi_k308_X11_whole : ∀ w ∈ wz_k308_X11_whole, w ∈ lw_tbl := zi_cons zw_1316 (zi_app (zi_cons zw_489 (zi_cons zw_1317 (zi_cons zw_1318 (zi_cons zw_1319 (zi_cons zw_109 (zi_cons zw_1325 (zi_cons zw_1322 (zi_cons zw_1323 zi_nil)))))))) (zi_app inX11 (zi_app zi_k309_X6_longestRunFirst (zi_app zi_k310_X6_runFrom zi_nil))))
set_option maxHeartbeats 4000000 in
set_option maxRecDepth 100000 in
theorem k308_X11_whole (l : Launch) (D : va_G) (zt : Nat × Nat × Nat × (Nat → Nat) × (Nat → Nat)) (q : Nat → Nat) (d : Nat → ClassId) (I : Nat → Int32) (A : Nat → Nat → Int32) (z1 : Int32) (hIv : IvX I A) : GM l D zt (tyX d) yX11_whole wz_k308_X11_whole ({ frames := 4, cells := 0, slots := 0, locals := 89 } : Room) [.ref (q 0), .int z1] (wX q d I A) (fun v _ w' => ∃ y0 : Int32, v = some (.int y0) ∧ w' = wX q d I A) 0 0 := by
  refine GM.of (cc := cX11_whole) (maxL := 3) (ret := (some .int)) (own := RX11) (lv := [(0, .ref (q 0)), (1, .int z1)]) (by decide) rfl rfl (Nat.le_of_ble_eq_true rfl) rfl (fun κ sz hk hR hN => ?_)
  have hin11 : ∀ w ∈ u_ws RX11 TX11 10, w ∈ wz_k308_X11_whole := fun w h => (List.mem_cons_of_mem _ (List.mem_append_right _ (List.mem_append_left _ h)))
  refine g_iload_n hk dX11_whole_0 rfl ?_
  have b9729l := Int32.le_toInt z1
  have b9729h := Int32.toInt_lt z1
  refine g_if_lt (tgt := 9) (a := z1.toInt) hk dX11_whole_1 (by decide) rfl (fun c9730 => ?_) (fun c9730 => ?_)
  · skip
    refine g_iconst (v := (-1)) hk dX11_whole_9 (by decide) ?_
    exact g_iret hk hR rfl ⟨(-1), rfl, rfl⟩ dX11_whole_10
  · skip
    refine g_iload_n hk dX11_whole_4 rfl ?_
    refine g_iconst (v := 1) hk dX11_whole_5 (by decide) ?_
    refine g_icmp_le (tgt := 11) (a := z1.toInt) (b := 1) hk dX11_whole_6 (by decide) rfl rfl (fun c9731 => ?_) (fun c9731 => ?_)
    · skip
      refine g_aload_n hk dX11_whole_11 rfl ?_
      refine gX_r0_2 hk hin11 (List.mem_cons_of_mem _ (List.mem_append_left _ (List.mem_of_getElem? (i := 0) rfl))) dX11_whole_12 ?_
      refine g_callV (n := 0) hk (k309_X6_longestRunFirst l D zt q d I A  hIv) (SP.same _) (fun _ h => h) (gi_V (List.mem_cons_of_mem _ (List.mem_append_left _ (List.mem_of_getElem? (i := 1) rfl))) (List.mem_cons_of_mem _ (List.mem_append_left _ (List.mem_of_getElem? (i := 2) rfl))) (List.mem_cons_of_mem _ (List.mem_append_left _ (List.mem_of_getElem? (i := 3) rfl))) (List.mem_cons_of_mem _ (List.mem_append_left _ (List.mem_of_getElem? (i := 4) rfl))) (gi_sub (fun w h => (List.mem_cons_of_mem _ (List.mem_append_right _ (List.mem_append_right _ (List.mem_append_left _ h))))) zg_k309_X6_longestRunFirst)) rfl rfl rfl (by decide +kernel) ⟨Nat.le_of_ble_eq_true rfl, Nat.le_of_ble_eq_true rfl⟩ 13 rfl rfl rfl rfl (Nat.le_of_ble_eq_true rfl) ⟨Nat.le_of_ble_eq_true rfl, Nat.le_of_ble_eq_true rfl⟩ dX11_whole_15 (fun v ty' w' hp hk' => ?_)
      obtain ⟨y9848, c9849, c9850, rfl, rfl⟩ := hp
      show GW κ 3 0 0 (wX q d I A) 18 [(0, .ref (q 0)), (1, .int z1)] [.int y9848]
      refine g_istore_n (lv' := [(2, .int y9848), (0, .ref (q 0)), (1, .int z1)]) hk dX11_whole_18 (by decide) rfl ?_
      refine g_iload_n hk dX11_whole_19 rfl ?_
      refine g_if_lt (tgt := 27) (a := y9848.toInt) hk dX11_whole_20 (by decide) rfl (fun c9851 => ?_) (fun c9851 => ?_)
      · skip
        refine g_iload_n hk dX11_whole_27 rfl ?_
        exact g_iret hk hR rfl ⟨y9848, rfl, rfl⟩ dX11_whole_28
      · skip
        refine g_iload_n hk dX11_whole_23 rfl ?_
        refine g_if_ne (tgt := 29) (a := z1.toInt) hk dX11_whole_24 (by decide) rfl (fun c9852 => ?_) (fun c9852 => ?_)
        · skip
          refine g_aload_n hk dX11_whole_29 rfl ?_
          refine gX_r0_2 hk hin11 (List.mem_cons_of_mem _ (List.mem_append_left _ (List.mem_of_getElem? (i := 0) rfl))) dX11_whole_30 ?_
          refine g_iload_n hk dX11_whole_33 rfl ?_
          refine g_callV (n := 1) hk (k310_X6_runFrom l D zt q d I A y9848 hIv) (SP.same _) (fun _ h => h) (gi_V (List.mem_cons_of_mem _ (List.mem_append_left _ (List.mem_of_getElem? (i := 5) rfl))) (List.mem_cons_of_mem _ (List.mem_append_left _ (List.mem_of_getElem? (i := 6) rfl))) (List.mem_cons_of_mem _ (List.mem_append_left _ (List.mem_of_getElem? (i := 7) rfl))) (List.mem_cons_of_mem _ (List.mem_append_left _ (List.mem_of_getElem? (i := 4) rfl))) (gi_sub (fun w h => (List.mem_cons_of_mem _ (List.mem_append_right _ (List.mem_append_right _ (List.mem_append_right _ (List.mem_append_left _ h)))))) zg_k310_X6_runFrom)) rfl rfl rfl (by decide +kernel) ⟨Nat.le_of_ble_eq_true rfl, Nat.le_of_ble_eq_true rfl⟩ 13 rfl rfl rfl rfl (Nat.le_of_ble_eq_true rfl) ⟨Nat.le_of_ble_eq_true rfl, Nat.le_of_ble_eq_true rfl⟩ dX11_whole_34 (fun v ty' w' hp hk' => ?_)
          obtain ⟨y9853, rfl, rfl⟩ := hp
          show GW κ 3 0 0 (wX q d I A) 37 [(2, .int y9848), (0, .ref (q 0)), (1, .int z1)] [.int y9853]
          have b9854l := Int32.le_toInt y9853
          have b9854h := Int32.toInt_lt y9853
          exact g_iret hk hR rfl ⟨y9853, rfl, rfl⟩ dX11_whole_37
        · skip
          refine g_iload_n hk dX11_whole_27 rfl ?_
          exact g_iret hk hR rfl ⟨y9848, rfl, rfl⟩ dX11_whole_28
    · skip
      refine g_iconst (v := (-1)) hk dX11_whole_9 (by decide) ?_
      exact g_iret hk hR rfl ⟨(-1), rfl, rfl⟩ dX11_whole_10
def wo_k313_X8_append : List Cond := [Cond.fieldLink RX8 22 "WarpDesk$Stand" "size" "I", Cond.fieldLink RX8 9 "WarpDesk$Stand" "places" "[I"]
def wz_k313_X8_append : List Cond := .code yX8_append cX8_append 2 none :: (wo_k313_X8_append ++ (wsX80 ++ ([] : List Cond)))
theorem zg_k313_X8_append : ∀ w ∈ wz_k313_X8_append, goodWord w = true := zg_cons rfl (zg_app (by decide +kernel) (zg_app zgU_wsX80 zg_nil))
theorem zi_k313_X8_append : ∀ w ∈ wz_k313_X8_append, w ∈ lw_tbl := zi_cons zw_741 (zi_app (zi_cons zw_195 (zi_cons zw_194 zi_nil)) (zi_app inX8 zi_nil))
set_option maxHeartbeats 4000000 in
set_option maxRecDepth 100000 in
theorem k313_X8_append (l : Launch) (D : va_G) (zt : Nat × Nat × Nat × (Nat → Nat) × (Nat → Nat)) (q : Nat → Nat) (d : Nat → ClassId) (I : Nat → Int32) (A : Nat → Nat → Int32) (z1 : Int32) (hIv : IvX I A) : GM l D zt (tyX d) yX8_append wz_k313_X8_append ({ frames := 0, cells := 0, slots := 0, locals := 0 } : Room) [.ref (q 25), .int z1] (wX q d I A) (fun v _ w' => ∃ (I' : Nat → Int32) (A' : Nat → Nat → Int32), Md [22] I I' ∧ Md [15] A A' ∧ IvX I' A' ∧ v = none ∧ w' = wX q d I' A') 0 0 := by
  refine GM.of (cc := cX8_append) (maxL := 2) (ret := none) (own := RX8) (lv := [(0, .ref (q 25)), (1, .int z1)]) (by decide) rfl rfl (Nat.le_of_ble_eq_true rfl) rfl (fun κ sz hk hR hN => ?_)
  have hin8 : ∀ w ∈ u_ws RX8 TX8 4, w ∈ wz_k313_X8_append := fun w h => (List.mem_cons_of_mem _ (List.mem_append_right _ (List.mem_append_left _ h)))
  refine g_aload_n hk dX8_append_0 rfl ?_
  refine gX_i22 (v := (I 22)) hk hin8 (List.mem_cons_of_mem _ (List.mem_append_left _ (List.mem_of_getElem? (i := 0) rfl))) dX8_append_1 rfl ?_
  have b9867l := Int32.le_toInt (I 22)
  have b9867h := Int32.toInt_lt (I 22)
  refine g_if_lt (tgt := 39) (a := (I 22).toInt) hk dX8_append_4 (by decide) rfl (fun c9868 => ?_) (fun c9868 => ?_)
  · skip
    exact g_vret hk hR ⟨I, A, (show Md [22] I I from Md.rf), (show Md [15] A A from Md.rf), hIv, rfl, rfl⟩ dX8_append_39
  · skip
    refine g_aload_n hk dX8_append_7 rfl ?_
    refine gX_i22 (v := (I 22)) hk hin8 (List.mem_cons_of_mem _ (List.mem_append_left _ (List.mem_of_getElem? (i := 0) rfl))) dX8_append_8 rfl ?_
    refine g_aload_n hk dX8_append_11 rfl ?_
    refine gX_r25_0 hk hin8 (List.mem_cons_of_mem _ (List.mem_append_left _ (List.mem_of_getElem? (i := 1) rfl))) dX8_append_12 ?_
    refine nX_15 hk dX8_append_15 ?_
    refine g_icmp_ge (tgt := 39) (a := (I 22).toInt) (b := 160) hk dX8_append_16 (by decide) rfl rfl (fun c9869 => ?_) (fun c9869 => ?_)
    · skip
      exact g_vret hk hR ⟨I, A, (show Md [22] I I from Md.rf), (show Md [15] A A from Md.rf), hIv, rfl, rfl⟩ dX8_append_39
    · skip
      refine g_aload_n hk dX8_append_19 rfl ?_
      refine gX_r25_0 hk hin8 (List.mem_cons_of_mem _ (List.mem_append_left _ (List.mem_of_getElem? (i := 1) rfl))) dX8_append_20 ?_
      refine g_aload_n hk dX8_append_23 rfl ?_
      refine gX_i22 (v := (I 22)) hk hin8 (List.mem_cons_of_mem _ (List.mem_append_left _ (List.mem_of_getElem? (i := 0) rfl))) dX8_append_24 rfl ?_
      refine g_iload_n hk dX8_append_27 rfl ?_
      refine sX_15 (j := (I 22).toNatClampNeg) hk (vp_in_iff.mpr ⟨by omega, by omega⟩) rfl dX8_append_28 ?_
      refine g_aload_n hk dX8_append_29 rfl ?_
      refine g_dup hk dX8_append_30 rfl ?_
      refine gX_i22 (v := (I 22)) hk hin8 (List.mem_cons_of_mem _ (List.mem_append_left _ (List.mem_of_getElem? (i := 0) rfl))) dX8_append_31 rfl ?_
      refine g_iconst (v := 1) hk dX8_append_34 (by decide) ?_
      refine g_iadd hk dX8_append_35 ?_
      refine g_topi (fun y9870 ey9870 => ?_)
      have hy9870 : y9870.toInt = (I 22).toInt + 1 := i32_add ey9870 rfl rfl (by omega) (by omega)
      refine pX_i22 hk hin8 (List.mem_cons_of_mem _ (List.mem_append_left _ (List.mem_of_getElem? (i := 0) rfl))) dX8_append_36 ?_
      exact g_vret hk hR ⟨(upd I 22 y9870), (up3 A 15 ((I 22).toNatClampNeg) z1), (show Md [22] I (upd I 22 y9870) from (Md.up Md.rf rfl)), (show Md [15] A (up3 A 15 ((I 22).toNatClampNeg) z1) from (Md.up3 Md.rf rfl)), ⟨(IvX_f0 (I := I) (A := A) hIv), (IvX_f18 (I := I) (A := A) hIv), (IvX_f30 (I := I) (A := A) hIv), (IvX_f31 (I := I) (A := A) hIv), (IvX_a4 (I := I) (A := A) hIv), (IvX_a9 (I := I) (A := A) hIv), trivial⟩, rfl, rfl⟩ dX8_append_39
def wo_k312_X6_copyInto : List Cond := [Cond.fieldLink RX6 22 "WarpDesk$Stand" "size" "I", Cond.fieldLink RX6 19 "WarpDesk$Series" "size" "I", Cond.methodLink RX6 33 yX6_valueAt, Cond.instanceMethod yX6_valueAt, Cond.selects RX6 yX6_valueAt yX6_valueAt, Cond.initialized RX6, Cond.methodLink RX6 34 yX8_append, Cond.instanceMethod yX8_append, Cond.selects RX8 yX8_append yX8_append, Cond.initialized RX8]
def wz_k312_X6_copyInto : List Cond := .code yX6_copyInto cX6_copyInto 3 none :: (wo_k312_X6_copyInto ++ (wsX60 ++ (wsX80 ++ (wz_k179_X6_valueAt ++ (wz_k313_X8_append ++ ([] : List Cond))))))
theorem zg_k312_X6_copyInto : ∀ w ∈ wz_k312_X6_copyInto, goodWord w = true := zg_cons rfl (zg_app (by decide +kernel) (zg_app zgU_wsX60 (zg_app zgU_wsX80 (zg_app zg_k179_X6_valueAt (zg_app zg_k313_X8_append zg_nil)))))
theorem zi_k312_X6_copyInto : ∀ w ∈ wz_k312_X6_copyInto, w ∈ lw_tbl := zi_cons zw_1333 (zi_app (zi_cons zw_196 (zi_cons zw_282 (zi_cons zw_843 (zi_cons zw_807 (zi_cons zw_808 (zi_cons zw_109 (zi_cons zw_1334 (zi_cons zw_739 (zi_cons zw_740 (zi_cons zw_106 zi_nil)))))))))) (zi_app inX6 (zi_app inX8 (zi_app zi_k179_X6_valueAt (zi_app zi_k313_X8_append zi_nil)))))
set_option maxHeartbeats 4000000 in
set_option maxRecDepth 100000 in
theorem k312_X6_copyInto (l : Launch) (D : va_G) (zt : Nat × Nat × Nat × (Nat → Nat) × (Nat → Nat)) (q : Nat → Nat) (d : Nat → ClassId) (I : Nat → Int32) (A : Nat → Nat → Int32) (hIv : IvX I A) : GM l D zt (tyX d) yX6_copyInto wz_k312_X6_copyInto ({ frames := 1, cells := 0, slots := 0, locals := 21 } : Room) [.ref (q 13), .ref (q 25)] (wX q d I A) (fun v _ w' => ∃ (I' : Nat → Int32) (A' : Nat → Nat → Int32), Md [22] I I' ∧ Md [15] A A' ∧ IvX I' A' ∧ v = none ∧ w' = wX q d I' A') 0 0 := by
  refine GM.of (cc := cX6_copyInto) (maxL := 3) (ret := none) (own := RX6) (lv := [(0, .ref (q 13)), (1, .ref (q 25))]) (by decide) rfl rfl (Nat.le_of_ble_eq_true rfl) rfl (fun κ sz hk hR hN => ?_)
  have hin6 : ∀ w ∈ u_ws RX6 TX6 3, w ∈ wz_k312_X6_copyInto := fun w h => (List.mem_cons_of_mem _ (List.mem_append_right _ (List.mem_append_left _ h)))
  have hin8 : ∀ w ∈ u_ws RX8 TX8 4, w ∈ wz_k312_X6_copyInto := fun w h => (List.mem_cons_of_mem _ (List.mem_append_right _ (List.mem_append_right _ (List.mem_append_left _ h))))
  refine g_aload_n hk dX6_copyInto_0 rfl ?_
  refine g_iconst (v := 0) hk dX6_copyInto_1 (by decide) ?_
  refine pX_i22 hk hin8 (List.mem_cons_of_mem _ (List.mem_append_left _ (List.mem_of_getElem? (i := 0) rfl))) dX6_copyInto_2 ?_
  refine g_iconst (v := 0) hk dX6_copyInto_5 (by decide) ?_
  refine g_istore_n (lv' := [(2, .int 0), (0, .ref (q 13)), (1, .ref (q 25))]) hk dX6_copyInto_6 (by decide) rfl ?_
  have lp9894 : ∀ (n9895 : Nat) (x9859 : Int32) (I9862 : Nat → Int32) (A9862 : Nat → Nat → Int32), (Md [22] (upd I 22 0) I9862) → (Md [15] A A9862) → (IvX I9862 A9862) → (0 ≤ x9859.toInt) → (x9859.toInt ≤ 160) → (161 - x9859.toInt < (n9895 : Int)) → (0 < n9895) → GW κ 3 0 0 (wX q d I9862 A9862) 7 [(2, .int x9859), (0, .ref (q 13)), (1, .ref (q 25))] [] := by
    intro n9895
    induction n9895 with
    | zero =>
      intro x9859 I9862 A9862 hI9862 hA9862 hV9862 h9892 h9893 m9896 m9896z
      exact absurd m9896z (Nat.lt_irrefl 0)
    | succ n9895 ih9897 =>
      intro x9859 I9862 A9862 hI9862 hA9862 hV9862 h9892 h9893 m9896 m9896z
      refine g_iload_n hk dX6_copyInto_7 rfl ?_
      refine g_aload_n hk dX6_copyInto_8 rfl ?_
      refine gX_i18 (v := (I 18)) hk hin6 (List.mem_cons_of_mem _ (List.mem_append_left _ (List.mem_of_getElem? (i := 1) rfl))) dX6_copyInto_9 (hI9862 18 rfl) ?_
      have f9898 := IvX_f18 hIv
      refine g_icmp_ge (tgt := 30) (a := x9859.toInt) (b := (I 18).toInt) hk dX6_copyInto_12 (by decide) rfl rfl (fun c9899 => ?_) (fun c9899 => ?_)
      · skip
        exact g_vret hk hR ⟨I9862, A9862, (show Md [22] I I9862 from (Md.tr (Md.up Md.rf rfl) hI9862 rfl)), (show Md [15] A A9862 from (Md.tr Md.rf hA9862 rfl)), hV9862, rfl, rfl⟩ dX6_copyInto_30
      · skip
        refine g_aload_n hk dX6_copyInto_15 rfl ?_
        refine g_aload_n hk dX6_copyInto_16 rfl ?_
        refine g_iload_n hk dX6_copyInto_17 rfl ?_
        refine g_callV (n := 1) hk (k179_X6_valueAt l D zt q d I9862 A9862 x9859 hV9862) (SP.same _) (fun _ h => h) (gi_V (List.mem_cons_of_mem _ (List.mem_append_left _ (List.mem_of_getElem? (i := 2) rfl))) (List.mem_cons_of_mem _ (List.mem_append_left _ (List.mem_of_getElem? (i := 3) rfl))) (List.mem_cons_of_mem _ (List.mem_append_left _ (List.mem_of_getElem? (i := 4) rfl))) (List.mem_cons_of_mem _ (List.mem_append_left _ (List.mem_of_getElem? (i := 5) rfl))) (gi_sub (fun w h => (List.mem_cons_of_mem _ (List.mem_append_right _ (List.mem_append_right _ (List.mem_append_right _ (List.mem_append_left _ h)))))) zg_k179_X6_valueAt)) rfl rfl rfl (by decide +kernel) ⟨Nat.le_of_ble_eq_true rfl, Nat.le_of_ble_eq_true rfl⟩ 13 rfl rfl rfl rfl (Nat.le_of_ble_eq_true rfl) ⟨Nat.le_of_ble_eq_true rfl, Nat.le_of_ble_eq_true rfl⟩ dX6_copyInto_18 (fun v ty' w' hp hk' => ?_)
        obtain ⟨y9900, rfl, rfl⟩ := hp
        show GW κ 3 0 0 (wX q d I9862 A9862) 21 [(2, .int x9859), (0, .ref (q 13)), (1, .ref (q 25))] [.int y9900, .ref (q 25)]
        refine g_callV (n := 1) hk (k313_X8_append l D zt q d I9862 A9862 y9900 hV9862) (SP.same _) (fun _ h => h) (gi_V (List.mem_cons_of_mem _ (List.mem_append_left _ (List.mem_of_getElem? (i := 6) rfl))) (List.mem_cons_of_mem _ (List.mem_append_left _ (List.mem_of_getElem? (i := 7) rfl))) (List.mem_cons_of_mem _ (List.mem_append_left _ (List.mem_of_getElem? (i := 8) rfl))) (List.mem_cons_of_mem _ (List.mem_append_left _ (List.mem_of_getElem? (i := 9) rfl))) (gi_sub (fun w h => (List.mem_cons_of_mem _ (List.mem_append_right _ (List.mem_append_right _ (List.mem_append_right _ (List.mem_append_right _ (List.mem_append_left _ h))))))) zg_k313_X8_append)) rfl rfl rfl (by decide +kernel) ⟨Nat.le_of_ble_eq_true rfl, Nat.le_of_ble_eq_true rfl⟩ 25 rfl rfl rfl rfl (Nat.le_of_ble_eq_true rfl) ⟨Nat.le_of_ble_eq_true rfl, Nat.le_of_ble_eq_true rfl⟩ dX6_copyInto_21 (fun v ty' w' hp hk' => ?_)
        obtain ⟨I9902, A9902, hI9902, hA9902, hV9902, rfl, rfl⟩ := hp
        show GW κ 3 0 0 (wX q d I9902 A9902) 24 [(2, .int x9859), (0, .ref (q 13)), (1, .ref (q 25))] []
        obtain ⟨y9903, ey9903⟩ : ∃ y : Int32, y = x9859 + Int32.ofInt 1 := ⟨_, rfl⟩
        have hy9903 : y9903.toInt = x9859.toInt + 1 := i32_add ey9903 rfl (by decide) (by omega) (by omega)
        refine g_iinc (v := y9903) (lv' := [(2, .int y9903), (0, .ref (q 13)), (1, .ref (q 25))]) hk 0 dX6_copyInto_24 rfl ey9903.symm (by decide) rfl ?_
        refine g_goto (tgt := 7) hk dX6_copyInto_27 (by decide) ?_
        exact g_lv (List.forall_mem_cons.mpr ⟨List.mem_of_getElem? (i := 0) rfl, (List.forall_mem_cons.mpr ⟨List.mem_of_getElem? (i := 1) rfl, (List.forall_mem_cons.mpr ⟨List.mem_of_getElem? (i := 2) rfl, (fun _ h => absurd h List.not_mem_nil)⟩)⟩)⟩) (ih9897 y9903 I9902 A9902 (show Md [22] (upd I 22 0) I9902 from Md.tr hI9862 (show Md [22] I9862 I9902 from (Md.tr Md.rf hI9902 rfl)) rfl) (show Md [15] A A9902 from Md.tr hA9862 (show Md [15] A9862 A9902 from (Md.tr Md.rf hA9902 rfl)) rfl) hV9902 (by omega) (by omega) (by omega) (by omega))
  have k9905 : (0 : Int32).toInt = 0 := rfl
  obtain ⟨n9904, n9904a, n9904b⟩ : ∃ n : Nat, 161 - 0 < (n : Int) ∧ 0 < n := ⟨((161 - 0 : Int)).toNat + 1, by omega, by omega⟩
  exact lp9894 n9904 0 (upd I 22 0) A Md.rf Md.rf ⟨(IvX_f0 (I := I) (A := A) hIv), (IvX_f18 (I := I) (A := A) hIv), (IvX_f30 (I := I) (A := A) hIv), (IvX_f31 (I := I) (A := A) hIv), (IvX_a4 (I := I) (A := A) hIv), (IvX_a9 (I := I) (A := A) hIv), trivial⟩ (by omega) (by omega) n9904a n9904b
def wo_k314_X7_takeFrom : List Cond := [Cond.fieldLink RX7 20 "WarpDesk$Settings" "values" "[I", Cond.methodLink RX7 33 yX7_valueOf, Cond.instanceMethod yX7_valueOf, Cond.selects RX7 yX7_valueOf yX7_valueOf, Cond.initialized RX7]
def wz_k314_X7_takeFrom : List Cond := .code yX7_takeFrom cX7_takeFrom 3 none :: (wo_k314_X7_takeFrom ++ (wsX70 ++ (wz_k194_X7_valueOf ++ ([] : List Cond))))
theorem zg_k314_X7_takeFrom : ∀ w ∈ wz_k314_X7_takeFrom, goodWord w = true := zg_cons rfl (zg_app (by decide +kernel) (zg_app zgU_wsX70 (zg_app zg_k194_X7_valueOf zg_nil)))
theorem zi_k314_X7_takeFrom : ∀ w ∈ wz_k314_X7_takeFrom, w ∈ lw_tbl := zi_cons zw_784 (zi_app (zi_cons zw_190 (zi_cons zw_785 (zi_cons zw_786 (zi_cons zw_787 (zi_cons zw_107 zi_nil))))) (zi_app inX7 (zi_app zi_k194_X7_valueOf zi_nil)))
set_option maxHeartbeats 4000000 in
set_option maxRecDepth 100000 in
theorem k314_X7_takeFrom (l : Launch) (D : va_G) (zt : Nat × Nat × Nat × (Nat → Nat) × (Nat → Nat)) (q : Nat → Nat) (d : Nat → ClassId) (I : Nat → Int32) (A : Nat → Nat → Int32) (hIv : IvX I A) : GM l D zt (tyX d) yX7_takeFrom wz_k314_X7_takeFrom ({ frames := 1, cells := 0, slots := 0, locals := 21 } : Room) [.ref (q 27), .ref (q 18)] (wX q d I A) (fun v _ w' => ∃ (I' : Nat → Int32) (A' : Nat → Nat → Int32), Md [] I I' ∧ Md [16] A A' ∧ IvX I' A' ∧ v = none ∧ w' = wX q d I' A') 0 0 := by
  refine GM.of (cc := cX7_takeFrom) (maxL := 3) (ret := none) (own := RX7) (lv := [(0, .ref (q 27)), (1, .ref (q 18))]) (by decide) rfl rfl (Nat.le_of_ble_eq_true rfl) rfl (fun κ sz hk hR hN => ?_)
  have hin7 : ∀ w ∈ u_ws RX7 TX7 1, w ∈ wz_k314_X7_takeFrom := fun w h => (List.mem_cons_of_mem _ (List.mem_append_right _ (List.mem_append_left _ h)))
  refine g_iconst (v := 0) hk dX7_takeFrom_0 (by decide) ?_
  refine g_istore_n (lv' := [(2, .int 0), (0, .ref (q 27)), (1, .ref (q 18))]) hk dX7_takeFrom_1 (by decide) rfl ?_
  have lp9925 : ∀ (n9926 : Nat) (x9908 : Int32) (I9911 : Nat → Int32) (A9911 : Nat → Nat → Int32), (Md [] I I9911) → (Md [16] A A9911) → (IvX I9911 A9911) → (0 ≤ x9908.toInt) → (x9908.toInt ≤ 4) → (5 - x9908.toInt < (n9926 : Int)) → (0 < n9926) → GW κ 3 0 0 (wX q d I9911 A9911) 2 [(2, .int x9908), (0, .ref (q 27)), (1, .ref (q 18))] [] := by
    intro n9926
    induction n9926 with
    | zero =>
      intro x9908 I9911 A9911 hI9911 hA9911 hV9911 h9923 h9924 m9927 m9927z
      exact absurd m9927z (Nat.lt_irrefl 0)
    | succ n9926 ih9928 =>
      intro x9908 I9911 A9911 hI9911 hA9911 hV9911 h9923 h9924 m9927 m9927z
      refine g_iload_n hk dX7_takeFrom_2 rfl ?_
      refine g_aload_n hk dX7_takeFrom_3 rfl ?_
      refine gX_r27_0 hk hin7 (List.mem_cons_of_mem _ (List.mem_append_left _ (List.mem_of_getElem? (i := 0) rfl))) dX7_takeFrom_4 ?_
      refine nX_16 hk dX7_takeFrom_7 ?_
      refine g_icmp_ge (tgt := 28) (a := x9908.toInt) (b := 4) hk dX7_takeFrom_8 (by decide) rfl rfl (fun c9929 => ?_) (fun c9929 => ?_)
      · skip
        exact g_vret hk hR ⟨I9911, A9911, (show Md [] I I9911 from (Md.tr Md.rf hI9911 rfl)), (show Md [16] A A9911 from (Md.tr Md.rf hA9911 rfl)), hV9911, rfl, rfl⟩ dX7_takeFrom_28
      · skip
        refine g_aload_n hk dX7_takeFrom_11 rfl ?_
        refine gX_r27_0 hk hin7 (List.mem_cons_of_mem _ (List.mem_append_left _ (List.mem_of_getElem? (i := 0) rfl))) dX7_takeFrom_12 ?_
        refine g_iload_n hk dX7_takeFrom_15 rfl ?_
        refine g_aload_n hk dX7_takeFrom_16 rfl ?_
        refine g_iload_n hk dX7_takeFrom_17 rfl ?_
        refine g_callV (n := 1) hk (k194_X7_valueOf l D zt q d I9911 A9911 x9908 hV9911) (SP.same _) (fun _ h => h) (gi_V (List.mem_cons_of_mem _ (List.mem_append_left _ (List.mem_of_getElem? (i := 1) rfl))) (List.mem_cons_of_mem _ (List.mem_append_left _ (List.mem_of_getElem? (i := 2) rfl))) (List.mem_cons_of_mem _ (List.mem_append_left _ (List.mem_of_getElem? (i := 3) rfl))) (List.mem_cons_of_mem _ (List.mem_append_left _ (List.mem_of_getElem? (i := 4) rfl))) (gi_sub (fun w h => (List.mem_cons_of_mem _ (List.mem_append_right _ (List.mem_append_right _ (List.mem_append_left _ h))))) zg_k194_X7_valueOf)) rfl rfl rfl (by decide +kernel) ⟨Nat.le_of_ble_eq_true rfl, Nat.le_of_ble_eq_true rfl⟩ 18 rfl rfl rfl rfl (Nat.le_of_ble_eq_true rfl) ⟨Nat.le_of_ble_eq_true rfl, Nat.le_of_ble_eq_true rfl⟩ dX7_takeFrom_18 (fun v ty' w' hp hk' => ?_)
        obtain ⟨y9930, rfl, rfl⟩ := hp
        show GW κ 3 0 0 (wX q d I9911 A9911) 21 [(2, .int x9908), (0, .ref (q 27)), (1, .ref (q 18))] [.int y9930, .int x9908, .ref (q 28)]
        refine sX_16 (j := x9908.toNatClampNeg) hk (vp_in_iff.mpr ⟨by omega, by omega⟩) rfl dX7_takeFrom_21 ?_
        obtain ⟨y9931, ey9931⟩ : ∃ y : Int32, y = x9908 + Int32.ofInt 1 := ⟨_, rfl⟩
        have hy9931 : y9931.toInt = x9908.toInt + 1 := i32_add ey9931 rfl (by decide) (by omega) (by omega)
        refine g_iinc (v := y9931) (lv' := [(2, .int y9931), (0, .ref (q 27)), (1, .ref (q 18))]) hk 0 dX7_takeFrom_22 rfl ey9931.symm (by decide) rfl ?_
        refine g_goto (tgt := 2) hk dX7_takeFrom_25 (by decide) ?_
        exact g_lv (List.forall_mem_cons.mpr ⟨List.mem_of_getElem? (i := 0) rfl, (List.forall_mem_cons.mpr ⟨List.mem_of_getElem? (i := 1) rfl, (List.forall_mem_cons.mpr ⟨List.mem_of_getElem? (i := 2) rfl, (fun _ h => absurd h List.not_mem_nil)⟩)⟩)⟩) (ih9928 y9931 I9911 (up3 A9911 16 (x9908.toNatClampNeg) y9930) (show Md [] I I9911 from Md.tr hI9911 (show Md [] I9911 I9911 from Md.rf) rfl) (show Md [16] A (up3 A9911 16 (x9908.toNatClampNeg) y9930) from Md.tr hA9911 (show Md [16] A9911 (up3 A9911 16 (x9908.toNatClampNeg) y9930) from (Md.up3 Md.rf rfl)) rfl) ⟨(IvX_f0 (I := I9911) (A := A9911) hV9911), (IvX_f18 (I := I9911) (A := A9911) hV9911), (IvX_f30 (I := I9911) (A := A9911) hV9911), (IvX_f31 (I := I9911) (A := A9911) hV9911), (IvX_a4 (I := I9911) (A := A9911) hV9911), (IvX_a9 (I := I9911) (A := A9911) hV9911), trivial⟩ (by omega) (by omega) (by omega) (by omega))
  have k9933 : (0 : Int32).toInt = 0 := rfl
  obtain ⟨n9932, n9932a, n9932b⟩ : ∃ n : Nat, 5 - 0 < (n : Int) ∧ 0 < n := ⟨((5 - 0 : Int)).toNat + 1, by omega, by omega⟩
  exact lp9925 n9932 0 I A Md.rf Md.rf hIv (by omega) (by omega) n9932a n9932b
def wo_k316_X8_append : List Cond := [Cond.fieldLink RX8 22 "WarpDesk$Stand" "size" "I", Cond.fieldLink RX8 9 "WarpDesk$Stand" "places" "[I"]
def wz_k316_X8_append : List Cond := .code yX8_append cX8_append 2 none :: (wo_k316_X8_append ++ (wsX80 ++ ([] : List Cond)))
theorem zg_k316_X8_append : ∀ w ∈ wz_k316_X8_append, goodWord w = true := zg_cons rfl (zg_app (by decide +kernel) (zg_app zgU_wsX80 zg_nil))
theorem zi_k316_X8_append : ∀ w ∈ wz_k316_X8_append, w ∈ lw_tbl := zi_cons zw_741 (zi_app (zi_cons zw_195 (zi_cons zw_194 zi_nil)) (zi_app inX8 zi_nil))
set_option maxHeartbeats 4000000 in
set_option maxRecDepth 100000 in
theorem k316_X8_append (l : Launch) (D : va_G) (zt : Nat × Nat × Nat × (Nat → Nat) × (Nat → Nat)) (q : Nat → Nat) (d : Nat → ClassId) (I : Nat → Int32) (A : Nat → Nat → Int32) (z1 : Int32) (hIv : IvX I A) : GM l D zt (tyX d) yX8_append wz_k316_X8_append ({ frames := 0, cells := 0, slots := 0, locals := 0 } : Room) [.ref (q 29), .int z1] (wX q d I A) (fun v _ w' => ∃ (I' : Nat → Int32) (A' : Nat → Nat → Int32), Md [24] I I' ∧ Md [17] A A' ∧ IvX I' A' ∧ v = none ∧ w' = wX q d I' A') 0 0 := by
  refine GM.of (cc := cX8_append) (maxL := 2) (ret := none) (own := RX8) (lv := [(0, .ref (q 29)), (1, .int z1)]) (by decide) rfl rfl (Nat.le_of_ble_eq_true rfl) rfl (fun κ sz hk hR hN => ?_)
  have hin8 : ∀ w ∈ u_ws RX8 TX8 4, w ∈ wz_k316_X8_append := fun w h => (List.mem_cons_of_mem _ (List.mem_append_right _ (List.mem_append_left _ h)))
  refine g_aload_n hk dX8_append_0 rfl ?_
  refine gX_i24 (v := (I 24)) hk hin8 (List.mem_cons_of_mem _ (List.mem_append_left _ (List.mem_of_getElem? (i := 0) rfl))) dX8_append_1 rfl ?_
  have b9945l := Int32.le_toInt (I 24)
  have b9945h := Int32.toInt_lt (I 24)
  refine g_if_lt (tgt := 39) (a := (I 24).toInt) hk dX8_append_4 (by decide) rfl (fun c9946 => ?_) (fun c9946 => ?_)
  · skip
    exact g_vret hk hR ⟨I, A, (show Md [24] I I from Md.rf), (show Md [17] A A from Md.rf), hIv, rfl, rfl⟩ dX8_append_39
  · skip
    refine g_aload_n hk dX8_append_7 rfl ?_
    refine gX_i24 (v := (I 24)) hk hin8 (List.mem_cons_of_mem _ (List.mem_append_left _ (List.mem_of_getElem? (i := 0) rfl))) dX8_append_8 rfl ?_
    refine g_aload_n hk dX8_append_11 rfl ?_
    refine gX_r29_0 hk hin8 (List.mem_cons_of_mem _ (List.mem_append_left _ (List.mem_of_getElem? (i := 1) rfl))) dX8_append_12 ?_
    refine nX_17 hk dX8_append_15 ?_
    refine g_icmp_ge (tgt := 39) (a := (I 24).toInt) (b := 160) hk dX8_append_16 (by decide) rfl rfl (fun c9947 => ?_) (fun c9947 => ?_)
    · skip
      exact g_vret hk hR ⟨I, A, (show Md [24] I I from Md.rf), (show Md [17] A A from Md.rf), hIv, rfl, rfl⟩ dX8_append_39
    · skip
      refine g_aload_n hk dX8_append_19 rfl ?_
      refine gX_r29_0 hk hin8 (List.mem_cons_of_mem _ (List.mem_append_left _ (List.mem_of_getElem? (i := 1) rfl))) dX8_append_20 ?_
      refine g_aload_n hk dX8_append_23 rfl ?_
      refine gX_i24 (v := (I 24)) hk hin8 (List.mem_cons_of_mem _ (List.mem_append_left _ (List.mem_of_getElem? (i := 0) rfl))) dX8_append_24 rfl ?_
      refine g_iload_n hk dX8_append_27 rfl ?_
      refine sX_17 (j := (I 24).toNatClampNeg) hk (vp_in_iff.mpr ⟨by omega, by omega⟩) rfl dX8_append_28 ?_
      refine g_aload_n hk dX8_append_29 rfl ?_
      refine g_dup hk dX8_append_30 rfl ?_
      refine gX_i24 (v := (I 24)) hk hin8 (List.mem_cons_of_mem _ (List.mem_append_left _ (List.mem_of_getElem? (i := 0) rfl))) dX8_append_31 rfl ?_
      refine g_iconst (v := 1) hk dX8_append_34 (by decide) ?_
      refine g_iadd hk dX8_append_35 ?_
      refine g_topi (fun y9948 ey9948 => ?_)
      have hy9948 : y9948.toInt = (I 24).toInt + 1 := i32_add ey9948 rfl rfl (by omega) (by omega)
      refine pX_i24 hk hin8 (List.mem_cons_of_mem _ (List.mem_append_left _ (List.mem_of_getElem? (i := 0) rfl))) dX8_append_36 ?_
      exact g_vret hk hR ⟨(upd I 24 y9948), (up3 A 17 ((I 24).toNatClampNeg) z1), (show Md [24] I (upd I 24 y9948) from (Md.up Md.rf rfl)), (show Md [17] A (up3 A 17 ((I 24).toNatClampNeg) z1) from (Md.up3 Md.rf rfl)), ⟨(IvX_f0 (I := I) (A := A) hIv), (IvX_f18 (I := I) (A := A) hIv), (IvX_f30 (I := I) (A := A) hIv), (IvX_f31 (I := I) (A := A) hIv), (IvX_a4 (I := I) (A := A) hIv), (IvX_a9 (I := I) (A := A) hIv), trivial⟩, rfl, rfl⟩ dX8_append_39
def wo_k315_X6_copyInto : List Cond := [Cond.fieldLink RX6 22 "WarpDesk$Stand" "size" "I", Cond.fieldLink RX6 19 "WarpDesk$Series" "size" "I", Cond.methodLink RX6 33 yX6_valueAt, Cond.instanceMethod yX6_valueAt, Cond.selects RX6 yX6_valueAt yX6_valueAt, Cond.initialized RX6, Cond.methodLink RX6 34 yX8_append, Cond.instanceMethod yX8_append, Cond.selects RX8 yX8_append yX8_append, Cond.initialized RX8]
def wz_k315_X6_copyInto : List Cond := .code yX6_copyInto cX6_copyInto 3 none :: (wo_k315_X6_copyInto ++ (wsX60 ++ (wsX80 ++ (wz_k179_X6_valueAt ++ (wz_k316_X8_append ++ ([] : List Cond))))))
theorem zg_k315_X6_copyInto : ∀ w ∈ wz_k315_X6_copyInto, goodWord w = true := zg_cons rfl (zg_app (by decide +kernel) (zg_app zgU_wsX60 (zg_app zgU_wsX80 (zg_app zg_k179_X6_valueAt (zg_app zg_k316_X8_append zg_nil)))))
theorem zi_k315_X6_copyInto : ∀ w ∈ wz_k315_X6_copyInto, w ∈ lw_tbl := zi_cons zw_1333 (zi_app (zi_cons zw_196 (zi_cons zw_282 (zi_cons zw_843 (zi_cons zw_807 (zi_cons zw_808 (zi_cons zw_109 (zi_cons zw_1334 (zi_cons zw_739 (zi_cons zw_740 (zi_cons zw_106 zi_nil)))))))))) (zi_app inX6 (zi_app inX8 (zi_app zi_k179_X6_valueAt (zi_app zi_k316_X8_append zi_nil)))))
set_option maxHeartbeats 4000000 in
set_option maxRecDepth 100000 in
theorem k315_X6_copyInto (l : Launch) (D : va_G) (zt : Nat × Nat × Nat × (Nat → Nat) × (Nat → Nat)) (q : Nat → Nat) (d : Nat → ClassId) (I : Nat → Int32) (A : Nat → Nat → Int32) (hIv : IvX I A) : GM l D zt (tyX d) yX6_copyInto wz_k315_X6_copyInto ({ frames := 1, cells := 0, slots := 0, locals := 21 } : Room) [.ref (q 13), .ref (q 29)] (wX q d I A) (fun v _ w' => ∃ (I' : Nat → Int32) (A' : Nat → Nat → Int32), Md [24] I I' ∧ Md [17] A A' ∧ IvX I' A' ∧ v = none ∧ w' = wX q d I' A') 0 0 := by
  refine GM.of (cc := cX6_copyInto) (maxL := 3) (ret := none) (own := RX6) (lv := [(0, .ref (q 13)), (1, .ref (q 29))]) (by decide) rfl rfl (Nat.le_of_ble_eq_true rfl) rfl (fun κ sz hk hR hN => ?_)
  have hin6 : ∀ w ∈ u_ws RX6 TX6 3, w ∈ wz_k315_X6_copyInto := fun w h => (List.mem_cons_of_mem _ (List.mem_append_right _ (List.mem_append_left _ h)))
  have hin8 : ∀ w ∈ u_ws RX8 TX8 4, w ∈ wz_k315_X6_copyInto := fun w h => (List.mem_cons_of_mem _ (List.mem_append_right _ (List.mem_append_right _ (List.mem_append_left _ h))))
  refine g_aload_n hk dX6_copyInto_0 rfl ?_
  refine g_iconst (v := 0) hk dX6_copyInto_1 (by decide) ?_
  refine pX_i24 hk hin8 (List.mem_cons_of_mem _ (List.mem_append_left _ (List.mem_of_getElem? (i := 0) rfl))) dX6_copyInto_2 ?_
  refine g_iconst (v := 0) hk dX6_copyInto_5 (by decide) ?_
  refine g_istore_n (lv' := [(2, .int 0), (0, .ref (q 13)), (1, .ref (q 29))]) hk dX6_copyInto_6 (by decide) rfl ?_
  have lp9972 : ∀ (n9973 : Nat) (x9937 : Int32) (I9940 : Nat → Int32) (A9940 : Nat → Nat → Int32), (Md [24] (upd I 24 0) I9940) → (Md [17] A A9940) → (IvX I9940 A9940) → (0 ≤ x9937.toInt) → (x9937.toInt ≤ 160) → (161 - x9937.toInt < (n9973 : Int)) → (0 < n9973) → GW κ 3 0 0 (wX q d I9940 A9940) 7 [(2, .int x9937), (0, .ref (q 13)), (1, .ref (q 29))] [] := by
    intro n9973
    induction n9973 with
    | zero =>
      intro x9937 I9940 A9940 hI9940 hA9940 hV9940 h9970 h9971 m9974 m9974z
      exact absurd m9974z (Nat.lt_irrefl 0)
    | succ n9973 ih9975 =>
      intro x9937 I9940 A9940 hI9940 hA9940 hV9940 h9970 h9971 m9974 m9974z
      refine g_iload_n hk dX6_copyInto_7 rfl ?_
      refine g_aload_n hk dX6_copyInto_8 rfl ?_
      refine gX_i18 (v := (I 18)) hk hin6 (List.mem_cons_of_mem _ (List.mem_append_left _ (List.mem_of_getElem? (i := 1) rfl))) dX6_copyInto_9 (hI9940 18 rfl) ?_
      have f9976 := IvX_f18 hIv
      refine g_icmp_ge (tgt := 30) (a := x9937.toInt) (b := (I 18).toInt) hk dX6_copyInto_12 (by decide) rfl rfl (fun c9977 => ?_) (fun c9977 => ?_)
      · skip
        exact g_vret hk hR ⟨I9940, A9940, (show Md [24] I I9940 from (Md.tr (Md.up Md.rf rfl) hI9940 rfl)), (show Md [17] A A9940 from (Md.tr Md.rf hA9940 rfl)), hV9940, rfl, rfl⟩ dX6_copyInto_30
      · skip
        refine g_aload_n hk dX6_copyInto_15 rfl ?_
        refine g_aload_n hk dX6_copyInto_16 rfl ?_
        refine g_iload_n hk dX6_copyInto_17 rfl ?_
        refine g_callV (n := 1) hk (k179_X6_valueAt l D zt q d I9940 A9940 x9937 hV9940) (SP.same _) (fun _ h => h) (gi_V (List.mem_cons_of_mem _ (List.mem_append_left _ (List.mem_of_getElem? (i := 2) rfl))) (List.mem_cons_of_mem _ (List.mem_append_left _ (List.mem_of_getElem? (i := 3) rfl))) (List.mem_cons_of_mem _ (List.mem_append_left _ (List.mem_of_getElem? (i := 4) rfl))) (List.mem_cons_of_mem _ (List.mem_append_left _ (List.mem_of_getElem? (i := 5) rfl))) (gi_sub (fun w h => (List.mem_cons_of_mem _ (List.mem_append_right _ (List.mem_append_right _ (List.mem_append_right _ (List.mem_append_left _ h)))))) zg_k179_X6_valueAt)) rfl rfl rfl (by decide +kernel) ⟨Nat.le_of_ble_eq_true rfl, Nat.le_of_ble_eq_true rfl⟩ 13 rfl rfl rfl rfl (Nat.le_of_ble_eq_true rfl) ⟨Nat.le_of_ble_eq_true rfl, Nat.le_of_ble_eq_true rfl⟩ dX6_copyInto_18 (fun v ty' w' hp hk' => ?_)
        obtain ⟨y9978, rfl, rfl⟩ := hp
        show GW κ 3 0 0 (wX q d I9940 A9940) 21 [(2, .int x9937), (0, .ref (q 13)), (1, .ref (q 29))] [.int y9978, .ref (q 29)]
        refine g_callV (n := 1) hk (k316_X8_append l D zt q d I9940 A9940 y9978 hV9940) (SP.same _) (fun _ h => h) (gi_V (List.mem_cons_of_mem _ (List.mem_append_left _ (List.mem_of_getElem? (i := 6) rfl))) (List.mem_cons_of_mem _ (List.mem_append_left _ (List.mem_of_getElem? (i := 7) rfl))) (List.mem_cons_of_mem _ (List.mem_append_left _ (List.mem_of_getElem? (i := 8) rfl))) (List.mem_cons_of_mem _ (List.mem_append_left _ (List.mem_of_getElem? (i := 9) rfl))) (gi_sub (fun w h => (List.mem_cons_of_mem _ (List.mem_append_right _ (List.mem_append_right _ (List.mem_append_right _ (List.mem_append_right _ (List.mem_append_left _ h))))))) zg_k316_X8_append)) rfl rfl rfl (by decide +kernel) ⟨Nat.le_of_ble_eq_true rfl, Nat.le_of_ble_eq_true rfl⟩ 29 rfl rfl rfl rfl (Nat.le_of_ble_eq_true rfl) ⟨Nat.le_of_ble_eq_true rfl, Nat.le_of_ble_eq_true rfl⟩ dX6_copyInto_21 (fun v ty' w' hp hk' => ?_)
        obtain ⟨I9980, A9980, hI9980, hA9980, hV9980, rfl, rfl⟩ := hp
        show GW κ 3 0 0 (wX q d I9980 A9980) 24 [(2, .int x9937), (0, .ref (q 13)), (1, .ref (q 29))] []
        obtain ⟨y9981, ey9981⟩ : ∃ y : Int32, y = x9937 + Int32.ofInt 1 := ⟨_, rfl⟩
        have hy9981 : y9981.toInt = x9937.toInt + 1 := i32_add ey9981 rfl (by decide) (by omega) (by omega)
        refine g_iinc (v := y9981) (lv' := [(2, .int y9981), (0, .ref (q 13)), (1, .ref (q 29))]) hk 0 dX6_copyInto_24 rfl ey9981.symm (by decide) rfl ?_
        refine g_goto (tgt := 7) hk dX6_copyInto_27 (by decide) ?_
        exact g_lv (List.forall_mem_cons.mpr ⟨List.mem_of_getElem? (i := 0) rfl, (List.forall_mem_cons.mpr ⟨List.mem_of_getElem? (i := 1) rfl, (List.forall_mem_cons.mpr ⟨List.mem_of_getElem? (i := 2) rfl, (fun _ h => absurd h List.not_mem_nil)⟩)⟩)⟩) (ih9975 y9981 I9980 A9980 (show Md [24] (upd I 24 0) I9980 from Md.tr hI9940 (show Md [24] I9940 I9980 from (Md.tr Md.rf hI9980 rfl)) rfl) (show Md [17] A A9980 from Md.tr hA9940 (show Md [17] A9940 A9980 from (Md.tr Md.rf hA9980 rfl)) rfl) hV9980 (by omega) (by omega) (by omega) (by omega))
  have k9983 : (0 : Int32).toInt = 0 := rfl
  obtain ⟨n9982, n9982a, n9982b⟩ : ∃ n : Nat, 161 - 0 < (n : Int) ∧ 0 < n := ⟨((161 - 0 : Int)).toNat + 1, by omega, by omega⟩
  exact lp9972 n9982 0 (upd I 24 0) A Md.rf Md.rf ⟨(IvX_f0 (I := I) (A := A) hIv), (IvX_f18 (I := I) (A := A) hIv), (IvX_f30 (I := I) (A := A) hIv), (IvX_f31 (I := I) (A := A) hIv), (IvX_a4 (I := I) (A := A) hIv), (IvX_a9 (I := I) (A := A) hIv), trivial⟩ (by omega) (by omega) n9982a n9982b
def wo_k317_X7_takeFrom : List Cond := [Cond.fieldLink RX7 20 "WarpDesk$Settings" "values" "[I", Cond.methodLink RX7 33 yX7_valueOf, Cond.instanceMethod yX7_valueOf, Cond.selects RX7 yX7_valueOf yX7_valueOf, Cond.initialized RX7]
def wz_k317_X7_takeFrom : List Cond := .code yX7_takeFrom cX7_takeFrom 3 none :: (wo_k317_X7_takeFrom ++ (wsX70 ++ (wz_k194_X7_valueOf ++ ([] : List Cond))))
theorem zg_k317_X7_takeFrom : ∀ w ∈ wz_k317_X7_takeFrom, goodWord w = true := zg_cons rfl (zg_app (by decide +kernel) (zg_app zgU_wsX70 (zg_app zg_k194_X7_valueOf zg_nil)))
theorem zi_k317_X7_takeFrom : ∀ w ∈ wz_k317_X7_takeFrom, w ∈ lw_tbl := zi_cons zw_784 (zi_app (zi_cons zw_190 (zi_cons zw_785 (zi_cons zw_786 (zi_cons zw_787 (zi_cons zw_107 zi_nil))))) (zi_app inX7 (zi_app zi_k194_X7_valueOf zi_nil)))
set_option maxHeartbeats 4000000 in
set_option maxRecDepth 100000 in
theorem k317_X7_takeFrom (l : Launch) (D : va_G) (zt : Nat × Nat × Nat × (Nat → Nat) × (Nat → Nat)) (q : Nat → Nat) (d : Nat → ClassId) (I : Nat → Int32) (A : Nat → Nat → Int32) (hIv : IvX I A) : GM l D zt (tyX d) yX7_takeFrom wz_k317_X7_takeFrom ({ frames := 1, cells := 0, slots := 0, locals := 21 } : Room) [.ref (q 31), .ref (q 18)] (wX q d I A) (fun v _ w' => ∃ (I' : Nat → Int32) (A' : Nat → Nat → Int32), Md [] I I' ∧ Md [18] A A' ∧ IvX I' A' ∧ v = none ∧ w' = wX q d I' A') 0 0 := by
  refine GM.of (cc := cX7_takeFrom) (maxL := 3) (ret := none) (own := RX7) (lv := [(0, .ref (q 31)), (1, .ref (q 18))]) (by decide) rfl rfl (Nat.le_of_ble_eq_true rfl) rfl (fun κ sz hk hR hN => ?_)
  have hin7 : ∀ w ∈ u_ws RX7 TX7 1, w ∈ wz_k317_X7_takeFrom := fun w h => (List.mem_cons_of_mem _ (List.mem_append_right _ (List.mem_append_left _ h)))
  refine g_iconst (v := 0) hk dX7_takeFrom_0 (by decide) ?_
  refine g_istore_n (lv' := [(2, .int 0), (0, .ref (q 31)), (1, .ref (q 18))]) hk dX7_takeFrom_1 (by decide) rfl ?_
  have lp10003 : ∀ (n10004 : Nat) (x9986 : Int32) (I9989 : Nat → Int32) (A9989 : Nat → Nat → Int32), (Md [] I I9989) → (Md [18] A A9989) → (IvX I9989 A9989) → (0 ≤ x9986.toInt) → (x9986.toInt ≤ 4) → (5 - x9986.toInt < (n10004 : Int)) → (0 < n10004) → GW κ 3 0 0 (wX q d I9989 A9989) 2 [(2, .int x9986), (0, .ref (q 31)), (1, .ref (q 18))] [] := by
    intro n10004
    induction n10004 with
    | zero =>
      intro x9986 I9989 A9989 hI9989 hA9989 hV9989 h10001 h10002 m10005 m10005z
      exact absurd m10005z (Nat.lt_irrefl 0)
    | succ n10004 ih10006 =>
      intro x9986 I9989 A9989 hI9989 hA9989 hV9989 h10001 h10002 m10005 m10005z
      refine g_iload_n hk dX7_takeFrom_2 rfl ?_
      refine g_aload_n hk dX7_takeFrom_3 rfl ?_
      refine gX_r31_0 hk hin7 (List.mem_cons_of_mem _ (List.mem_append_left _ (List.mem_of_getElem? (i := 0) rfl))) dX7_takeFrom_4 ?_
      refine nX_18 hk dX7_takeFrom_7 ?_
      refine g_icmp_ge (tgt := 28) (a := x9986.toInt) (b := 4) hk dX7_takeFrom_8 (by decide) rfl rfl (fun c10007 => ?_) (fun c10007 => ?_)
      · skip
        exact g_vret hk hR ⟨I9989, A9989, (show Md [] I I9989 from (Md.tr Md.rf hI9989 rfl)), (show Md [18] A A9989 from (Md.tr Md.rf hA9989 rfl)), hV9989, rfl, rfl⟩ dX7_takeFrom_28
      · skip
        refine g_aload_n hk dX7_takeFrom_11 rfl ?_
        refine gX_r31_0 hk hin7 (List.mem_cons_of_mem _ (List.mem_append_left _ (List.mem_of_getElem? (i := 0) rfl))) dX7_takeFrom_12 ?_
        refine g_iload_n hk dX7_takeFrom_15 rfl ?_
        refine g_aload_n hk dX7_takeFrom_16 rfl ?_
        refine g_iload_n hk dX7_takeFrom_17 rfl ?_
        refine g_callV (n := 1) hk (k194_X7_valueOf l D zt q d I9989 A9989 x9986 hV9989) (SP.same _) (fun _ h => h) (gi_V (List.mem_cons_of_mem _ (List.mem_append_left _ (List.mem_of_getElem? (i := 1) rfl))) (List.mem_cons_of_mem _ (List.mem_append_left _ (List.mem_of_getElem? (i := 2) rfl))) (List.mem_cons_of_mem _ (List.mem_append_left _ (List.mem_of_getElem? (i := 3) rfl))) (List.mem_cons_of_mem _ (List.mem_append_left _ (List.mem_of_getElem? (i := 4) rfl))) (gi_sub (fun w h => (List.mem_cons_of_mem _ (List.mem_append_right _ (List.mem_append_right _ (List.mem_append_left _ h))))) zg_k194_X7_valueOf)) rfl rfl rfl (by decide +kernel) ⟨Nat.le_of_ble_eq_true rfl, Nat.le_of_ble_eq_true rfl⟩ 18 rfl rfl rfl rfl (Nat.le_of_ble_eq_true rfl) ⟨Nat.le_of_ble_eq_true rfl, Nat.le_of_ble_eq_true rfl⟩ dX7_takeFrom_18 (fun v ty' w' hp hk' => ?_)
        obtain ⟨y10008, rfl, rfl⟩ := hp
        show GW κ 3 0 0 (wX q d I9989 A9989) 21 [(2, .int x9986), (0, .ref (q 31)), (1, .ref (q 18))] [.int y10008, .int x9986, .ref (q 32)]
        refine sX_18 (j := x9986.toNatClampNeg) hk (vp_in_iff.mpr ⟨by omega, by omega⟩) rfl dX7_takeFrom_21 ?_
        obtain ⟨y10009, ey10009⟩ : ∃ y : Int32, y = x9986 + Int32.ofInt 1 := ⟨_, rfl⟩
        have hy10009 : y10009.toInt = x9986.toInt + 1 := i32_add ey10009 rfl (by decide) (by omega) (by omega)
        refine g_iinc (v := y10009) (lv' := [(2, .int y10009), (0, .ref (q 31)), (1, .ref (q 18))]) hk 0 dX7_takeFrom_22 rfl ey10009.symm (by decide) rfl ?_
        refine g_goto (tgt := 2) hk dX7_takeFrom_25 (by decide) ?_
        exact g_lv (List.forall_mem_cons.mpr ⟨List.mem_of_getElem? (i := 0) rfl, (List.forall_mem_cons.mpr ⟨List.mem_of_getElem? (i := 1) rfl, (List.forall_mem_cons.mpr ⟨List.mem_of_getElem? (i := 2) rfl, (fun _ h => absurd h List.not_mem_nil)⟩)⟩)⟩) (ih10006 y10009 I9989 (up3 A9989 18 (x9986.toNatClampNeg) y10008) (show Md [] I I9989 from Md.tr hI9989 (show Md [] I9989 I9989 from Md.rf) rfl) (show Md [18] A (up3 A9989 18 (x9986.toNatClampNeg) y10008) from Md.tr hA9989 (show Md [18] A9989 (up3 A9989 18 (x9986.toNatClampNeg) y10008) from (Md.up3 Md.rf rfl)) rfl) ⟨(IvX_f0 (I := I9989) (A := A9989) hV9989), (IvX_f18 (I := I9989) (A := A9989) hV9989), (IvX_f30 (I := I9989) (A := A9989) hV9989), (IvX_f31 (I := I9989) (A := A9989) hV9989), (IvX_a4 (I := I9989) (A := A9989) hV9989), (IvX_a9 (I := I9989) (A := A9989) hV9989), trivial⟩ (by omega) (by omega) (by omega) (by omega))
  have k10011 : (0 : Int32).toInt = 0 := rfl
  obtain ⟨n10010, n10010a, n10010b⟩ : ∃ n : Nat, 5 - 0 < (n : Int) ∧ 0 < n := ⟨((5 - 0 : Int)).toNat + 1, by omega, by omega⟩
  exact lp10003 n10010 0 I A Md.rf Md.rf hIv (by omega) (by omega) n10010a n10010b
def wo_k319_X8_append : List Cond := [Cond.fieldLink RX8 22 "WarpDesk$Stand" "size" "I", Cond.fieldLink RX8 9 "WarpDesk$Stand" "places" "[I"]
def wz_k319_X8_append : List Cond := .code yX8_append cX8_append 2 none :: (wo_k319_X8_append ++ (wsX80 ++ ([] : List Cond)))
theorem zg_k319_X8_append : ∀ w ∈ wz_k319_X8_append, goodWord w = true := zg_cons rfl (zg_app (by decide +kernel) (zg_app zgU_wsX80 zg_nil))
theorem zi_k319_X8_append : ∀ w ∈ wz_k319_X8_append, w ∈ lw_tbl := zi_cons zw_741 (zi_app (zi_cons zw_195 (zi_cons zw_194 zi_nil)) (zi_app inX8 zi_nil))
set_option maxHeartbeats 4000000 in
set_option maxRecDepth 100000 in
theorem k319_X8_append (l : Launch) (D : va_G) (zt : Nat × Nat × Nat × (Nat → Nat) × (Nat → Nat)) (q : Nat → Nat) (d : Nat → ClassId) (I : Nat → Int32) (A : Nat → Nat → Int32) (z1 : Int32) (hIv : IvX I A) : GM l D zt (tyX d) yX8_append wz_k319_X8_append ({ frames := 0, cells := 0, slots := 0, locals := 0 } : Room) [.ref (q 33), .int z1] (wX q d I A) (fun v _ w' => ∃ (I' : Nat → Int32) (A' : Nat → Nat → Int32), Md [26] I I' ∧ Md [19] A A' ∧ IvX I' A' ∧ v = none ∧ w' = wX q d I' A') 0 0 := by
  refine GM.of (cc := cX8_append) (maxL := 2) (ret := none) (own := RX8) (lv := [(0, .ref (q 33)), (1, .int z1)]) (by decide) rfl rfl (Nat.le_of_ble_eq_true rfl) rfl (fun κ sz hk hR hN => ?_)
  have hin8 : ∀ w ∈ u_ws RX8 TX8 4, w ∈ wz_k319_X8_append := fun w h => (List.mem_cons_of_mem _ (List.mem_append_right _ (List.mem_append_left _ h)))
  refine g_aload_n hk dX8_append_0 rfl ?_
  refine gX_i26 (v := (I 26)) hk hin8 (List.mem_cons_of_mem _ (List.mem_append_left _ (List.mem_of_getElem? (i := 0) rfl))) dX8_append_1 rfl ?_
  have b10023l := Int32.le_toInt (I 26)
  have b10023h := Int32.toInt_lt (I 26)
  refine g_if_lt (tgt := 39) (a := (I 26).toInt) hk dX8_append_4 (by decide) rfl (fun c10024 => ?_) (fun c10024 => ?_)
  · skip
    exact g_vret hk hR ⟨I, A, (show Md [26] I I from Md.rf), (show Md [19] A A from Md.rf), hIv, rfl, rfl⟩ dX8_append_39
  · skip
    refine g_aload_n hk dX8_append_7 rfl ?_
    refine gX_i26 (v := (I 26)) hk hin8 (List.mem_cons_of_mem _ (List.mem_append_left _ (List.mem_of_getElem? (i := 0) rfl))) dX8_append_8 rfl ?_
    refine g_aload_n hk dX8_append_11 rfl ?_
    refine gX_r33_0 hk hin8 (List.mem_cons_of_mem _ (List.mem_append_left _ (List.mem_of_getElem? (i := 1) rfl))) dX8_append_12 ?_
    refine nX_19 hk dX8_append_15 ?_
    refine g_icmp_ge (tgt := 39) (a := (I 26).toInt) (b := 160) hk dX8_append_16 (by decide) rfl rfl (fun c10025 => ?_) (fun c10025 => ?_)
    · skip
      exact g_vret hk hR ⟨I, A, (show Md [26] I I from Md.rf), (show Md [19] A A from Md.rf), hIv, rfl, rfl⟩ dX8_append_39
    · skip
      refine g_aload_n hk dX8_append_19 rfl ?_
      refine gX_r33_0 hk hin8 (List.mem_cons_of_mem _ (List.mem_append_left _ (List.mem_of_getElem? (i := 1) rfl))) dX8_append_20 ?_
      refine g_aload_n hk dX8_append_23 rfl ?_
      refine gX_i26 (v := (I 26)) hk hin8 (List.mem_cons_of_mem _ (List.mem_append_left _ (List.mem_of_getElem? (i := 0) rfl))) dX8_append_24 rfl ?_
      refine g_iload_n hk dX8_append_27 rfl ?_
      refine sX_19 (j := (I 26).toNatClampNeg) hk (vp_in_iff.mpr ⟨by omega, by omega⟩) rfl dX8_append_28 ?_
      refine g_aload_n hk dX8_append_29 rfl ?_
      refine g_dup hk dX8_append_30 rfl ?_
      refine gX_i26 (v := (I 26)) hk hin8 (List.mem_cons_of_mem _ (List.mem_append_left _ (List.mem_of_getElem? (i := 0) rfl))) dX8_append_31 rfl ?_
      refine g_iconst (v := 1) hk dX8_append_34 (by decide) ?_
      refine g_iadd hk dX8_append_35 ?_
      refine g_topi (fun y10026 ey10026 => ?_)
      have hy10026 : y10026.toInt = (I 26).toInt + 1 := i32_add ey10026 rfl rfl (by omega) (by omega)
      refine pX_i26 hk hin8 (List.mem_cons_of_mem _ (List.mem_append_left _ (List.mem_of_getElem? (i := 0) rfl))) dX8_append_36 ?_
      exact g_vret hk hR ⟨(upd I 26 y10026), (up3 A 19 ((I 26).toNatClampNeg) z1), (show Md [26] I (upd I 26 y10026) from (Md.up Md.rf rfl)), (show Md [19] A (up3 A 19 ((I 26).toNatClampNeg) z1) from (Md.up3 Md.rf rfl)), ⟨(IvX_f0 (I := I) (A := A) hIv), (IvX_f18 (I := I) (A := A) hIv), (IvX_f30 (I := I) (A := A) hIv), (IvX_f31 (I := I) (A := A) hIv), (IvX_a4 (I := I) (A := A) hIv), (IvX_a9 (I := I) (A := A) hIv), trivial⟩, rfl, rfl⟩ dX8_append_39
def wo_k318_X6_copyInto : List Cond := [Cond.fieldLink RX6 22 "WarpDesk$Stand" "size" "I", Cond.fieldLink RX6 19 "WarpDesk$Series" "size" "I", Cond.methodLink RX6 33 yX6_valueAt, Cond.instanceMethod yX6_valueAt, Cond.selects RX6 yX6_valueAt yX6_valueAt, Cond.initialized RX6, Cond.methodLink RX6 34 yX8_append, Cond.instanceMethod yX8_append, Cond.selects RX8 yX8_append yX8_append, Cond.initialized RX8]
def wz_k318_X6_copyInto : List Cond := .code yX6_copyInto cX6_copyInto 3 none :: (wo_k318_X6_copyInto ++ (wsX60 ++ (wsX80 ++ (wz_k179_X6_valueAt ++ (wz_k319_X8_append ++ ([] : List Cond))))))
theorem zg_k318_X6_copyInto : ∀ w ∈ wz_k318_X6_copyInto, goodWord w = true := zg_cons rfl (zg_app (by decide +kernel) (zg_app zgU_wsX60 (zg_app zgU_wsX80 (zg_app zg_k179_X6_valueAt (zg_app zg_k319_X8_append zg_nil)))))
theorem zi_k318_X6_copyInto : ∀ w ∈ wz_k318_X6_copyInto, w ∈ lw_tbl := zi_cons zw_1333 (zi_app (zi_cons zw_196 (zi_cons zw_282 (zi_cons zw_843 (zi_cons zw_807 (zi_cons zw_808 (zi_cons zw_109 (zi_cons zw_1334 (zi_cons zw_739 (zi_cons zw_740 (zi_cons zw_106 zi_nil)))))))))) (zi_app inX6 (zi_app inX8 (zi_app zi_k179_X6_valueAt (zi_app zi_k319_X8_append zi_nil)))))
set_option maxHeartbeats 4000000 in
set_option maxRecDepth 100000 in
theorem k318_X6_copyInto (l : Launch) (D : va_G) (zt : Nat × Nat × Nat × (Nat → Nat) × (Nat → Nat)) (q : Nat → Nat) (d : Nat → ClassId) (I : Nat → Int32) (A : Nat → Nat → Int32) (hIv : IvX I A) : GM l D zt (tyX d) yX6_copyInto wz_k318_X6_copyInto ({ frames := 1, cells := 0, slots := 0, locals := 21 } : Room) [.ref (q 13), .ref (q 33)] (wX q d I A) (fun v _ w' => ∃ (I' : Nat → Int32) (A' : Nat → Nat → Int32), Md [26] I I' ∧ Md [19] A A' ∧ IvX I' A' ∧ v = none ∧ w' = wX q d I' A') 0 0 := by
  refine GM.of (cc := cX6_copyInto) (maxL := 3) (ret := none) (own := RX6) (lv := [(0, .ref (q 13)), (1, .ref (q 33))]) (by decide) rfl rfl (Nat.le_of_ble_eq_true rfl) rfl (fun κ sz hk hR hN => ?_)
  have hin6 : ∀ w ∈ u_ws RX6 TX6 3, w ∈ wz_k318_X6_copyInto := fun w h => (List.mem_cons_of_mem _ (List.mem_append_right _ (List.mem_append_left _ h)))
  have hin8 : ∀ w ∈ u_ws RX8 TX8 4, w ∈ wz_k318_X6_copyInto := fun w h => (List.mem_cons_of_mem _ (List.mem_append_right _ (List.mem_append_right _ (List.mem_append_left _ h))))
  refine g_aload_n hk dX6_copyInto_0 rfl ?_
  refine g_iconst (v := 0) hk dX6_copyInto_1 (by decide) ?_
  refine pX_i26 hk hin8 (List.mem_cons_of_mem _ (List.mem_append_left _ (List.mem_of_getElem? (i := 0) rfl))) dX6_copyInto_2 ?_
  refine g_iconst (v := 0) hk dX6_copyInto_5 (by decide) ?_
  refine g_istore_n (lv' := [(2, .int 0), (0, .ref (q 13)), (1, .ref (q 33))]) hk dX6_copyInto_6 (by decide) rfl ?_
  have lp10050 : ∀ (n10051 : Nat) (x10015 : Int32) (I10018 : Nat → Int32) (A10018 : Nat → Nat → Int32), (Md [26] (upd I 26 0) I10018) → (Md [19] A A10018) → (IvX I10018 A10018) → (0 ≤ x10015.toInt) → (x10015.toInt ≤ 160) → (161 - x10015.toInt < (n10051 : Int)) → (0 < n10051) → GW κ 3 0 0 (wX q d I10018 A10018) 7 [(2, .int x10015), (0, .ref (q 13)), (1, .ref (q 33))] [] := by
    intro n10051
    induction n10051 with
    | zero =>
      intro x10015 I10018 A10018 hI10018 hA10018 hV10018 h10048 h10049 m10052 m10052z
      exact absurd m10052z (Nat.lt_irrefl 0)
    | succ n10051 ih10053 =>
      intro x10015 I10018 A10018 hI10018 hA10018 hV10018 h10048 h10049 m10052 m10052z
      refine g_iload_n hk dX6_copyInto_7 rfl ?_
      refine g_aload_n hk dX6_copyInto_8 rfl ?_
      refine gX_i18 (v := (I 18)) hk hin6 (List.mem_cons_of_mem _ (List.mem_append_left _ (List.mem_of_getElem? (i := 1) rfl))) dX6_copyInto_9 (hI10018 18 rfl) ?_
      have f10054 := IvX_f18 hIv
      refine g_icmp_ge (tgt := 30) (a := x10015.toInt) (b := (I 18).toInt) hk dX6_copyInto_12 (by decide) rfl rfl (fun c10055 => ?_) (fun c10055 => ?_)
      · skip
        exact g_vret hk hR ⟨I10018, A10018, (show Md [26] I I10018 from (Md.tr (Md.up Md.rf rfl) hI10018 rfl)), (show Md [19] A A10018 from (Md.tr Md.rf hA10018 rfl)), hV10018, rfl, rfl⟩ dX6_copyInto_30
      · skip
        refine g_aload_n hk dX6_copyInto_15 rfl ?_
        refine g_aload_n hk dX6_copyInto_16 rfl ?_
        refine g_iload_n hk dX6_copyInto_17 rfl ?_
        refine g_callV (n := 1) hk (k179_X6_valueAt l D zt q d I10018 A10018 x10015 hV10018) (SP.same _) (fun _ h => h) (gi_V (List.mem_cons_of_mem _ (List.mem_append_left _ (List.mem_of_getElem? (i := 2) rfl))) (List.mem_cons_of_mem _ (List.mem_append_left _ (List.mem_of_getElem? (i := 3) rfl))) (List.mem_cons_of_mem _ (List.mem_append_left _ (List.mem_of_getElem? (i := 4) rfl))) (List.mem_cons_of_mem _ (List.mem_append_left _ (List.mem_of_getElem? (i := 5) rfl))) (gi_sub (fun w h => (List.mem_cons_of_mem _ (List.mem_append_right _ (List.mem_append_right _ (List.mem_append_right _ (List.mem_append_left _ h)))))) zg_k179_X6_valueAt)) rfl rfl rfl (by decide +kernel) ⟨Nat.le_of_ble_eq_true rfl, Nat.le_of_ble_eq_true rfl⟩ 13 rfl rfl rfl rfl (Nat.le_of_ble_eq_true rfl) ⟨Nat.le_of_ble_eq_true rfl, Nat.le_of_ble_eq_true rfl⟩ dX6_copyInto_18 (fun v ty' w' hp hk' => ?_)
        obtain ⟨y10056, rfl, rfl⟩ := hp
        show GW κ 3 0 0 (wX q d I10018 A10018) 21 [(2, .int x10015), (0, .ref (q 13)), (1, .ref (q 33))] [.int y10056, .ref (q 33)]
        refine g_callV (n := 1) hk (k319_X8_append l D zt q d I10018 A10018 y10056 hV10018) (SP.same _) (fun _ h => h) (gi_V (List.mem_cons_of_mem _ (List.mem_append_left _ (List.mem_of_getElem? (i := 6) rfl))) (List.mem_cons_of_mem _ (List.mem_append_left _ (List.mem_of_getElem? (i := 7) rfl))) (List.mem_cons_of_mem _ (List.mem_append_left _ (List.mem_of_getElem? (i := 8) rfl))) (List.mem_cons_of_mem _ (List.mem_append_left _ (List.mem_of_getElem? (i := 9) rfl))) (gi_sub (fun w h => (List.mem_cons_of_mem _ (List.mem_append_right _ (List.mem_append_right _ (List.mem_append_right _ (List.mem_append_right _ (List.mem_append_left _ h))))))) zg_k319_X8_append)) rfl rfl rfl (by decide +kernel) ⟨Nat.le_of_ble_eq_true rfl, Nat.le_of_ble_eq_true rfl⟩ 33 rfl rfl rfl rfl (Nat.le_of_ble_eq_true rfl) ⟨Nat.le_of_ble_eq_true rfl, Nat.le_of_ble_eq_true rfl⟩ dX6_copyInto_21 (fun v ty' w' hp hk' => ?_)
        obtain ⟨I10058, A10058, hI10058, hA10058, hV10058, rfl, rfl⟩ := hp
        show GW κ 3 0 0 (wX q d I10058 A10058) 24 [(2, .int x10015), (0, .ref (q 13)), (1, .ref (q 33))] []
        obtain ⟨y10059, ey10059⟩ : ∃ y : Int32, y = x10015 + Int32.ofInt 1 := ⟨_, rfl⟩
        have hy10059 : y10059.toInt = x10015.toInt + 1 := i32_add ey10059 rfl (by decide) (by omega) (by omega)
        refine g_iinc (v := y10059) (lv' := [(2, .int y10059), (0, .ref (q 13)), (1, .ref (q 33))]) hk 0 dX6_copyInto_24 rfl ey10059.symm (by decide) rfl ?_
        refine g_goto (tgt := 7) hk dX6_copyInto_27 (by decide) ?_
        exact g_lv (List.forall_mem_cons.mpr ⟨List.mem_of_getElem? (i := 0) rfl, (List.forall_mem_cons.mpr ⟨List.mem_of_getElem? (i := 1) rfl, (List.forall_mem_cons.mpr ⟨List.mem_of_getElem? (i := 2) rfl, (fun _ h => absurd h List.not_mem_nil)⟩)⟩)⟩) (ih10053 y10059 I10058 A10058 (show Md [26] (upd I 26 0) I10058 from Md.tr hI10018 (show Md [26] I10018 I10058 from (Md.tr Md.rf hI10058 rfl)) rfl) (show Md [19] A A10058 from Md.tr hA10018 (show Md [19] A10018 A10058 from (Md.tr Md.rf hA10058 rfl)) rfl) hV10058 (by omega) (by omega) (by omega) (by omega))
  have k10061 : (0 : Int32).toInt = 0 := rfl
  obtain ⟨n10060, n10060a, n10060b⟩ : ∃ n : Nat, 161 - 0 < (n : Int) ∧ 0 < n := ⟨((161 - 0 : Int)).toNat + 1, by omega, by omega⟩
  exact lp10050 n10060 0 (upd I 26 0) A Md.rf Md.rf ⟨(IvX_f0 (I := I) (A := A) hIv), (IvX_f18 (I := I) (A := A) hIv), (IvX_f30 (I := I) (A := A) hIv), (IvX_f31 (I := I) (A := A) hIv), (IvX_a4 (I := I) (A := A) hIv), (IvX_a9 (I := I) (A := A) hIv), trivial⟩ (by omega) (by omega) n10060a n10060b
def wo_k320_X7_takeFrom : List Cond := [Cond.fieldLink RX7 20 "WarpDesk$Settings" "values" "[I", Cond.methodLink RX7 33 yX7_valueOf, Cond.instanceMethod yX7_valueOf, Cond.selects RX7 yX7_valueOf yX7_valueOf, Cond.initialized RX7]
def wz_k320_X7_takeFrom : List Cond := .code yX7_takeFrom cX7_takeFrom 3 none :: (wo_k320_X7_takeFrom ++ (wsX70 ++ (wz_k194_X7_valueOf ++ ([] : List Cond))))
theorem zg_k320_X7_takeFrom : ∀ w ∈ wz_k320_X7_takeFrom, goodWord w = true := zg_cons rfl (zg_app (by decide +kernel) (zg_app zgU_wsX70 (zg_app zg_k194_X7_valueOf zg_nil)))
theorem zi_k320_X7_takeFrom : ∀ w ∈ wz_k320_X7_takeFrom, w ∈ lw_tbl := zi_cons zw_784 (zi_app (zi_cons zw_190 (zi_cons zw_785 (zi_cons zw_786 (zi_cons zw_787 (zi_cons zw_107 zi_nil))))) (zi_app inX7 (zi_app zi_k194_X7_valueOf zi_nil)))
set_option maxHeartbeats 4000000 in
set_option maxRecDepth 100000 in
theorem k320_X7_takeFrom (l : Launch) (D : va_G) (zt : Nat × Nat × Nat × (Nat → Nat) × (Nat → Nat)) (q : Nat → Nat) (d : Nat → ClassId) (I : Nat → Int32) (A : Nat → Nat → Int32) (hIv : IvX I A) : GM l D zt (tyX d) yX7_takeFrom wz_k320_X7_takeFrom ({ frames := 1, cells := 0, slots := 0, locals := 21 } : Room) [.ref (q 35), .ref (q 18)] (wX q d I A) (fun v _ w' => ∃ (I' : Nat → Int32) (A' : Nat → Nat → Int32), Md [] I I' ∧ Md [20] A A' ∧ IvX I' A' ∧ v = none ∧ w' = wX q d I' A') 0 0 := by
  refine GM.of (cc := cX7_takeFrom) (maxL := 3) (ret := none) (own := RX7) (lv := [(0, .ref (q 35)), (1, .ref (q 18))]) (by decide) rfl rfl (Nat.le_of_ble_eq_true rfl) rfl (fun κ sz hk hR hN => ?_)
  have hin7 : ∀ w ∈ u_ws RX7 TX7 1, w ∈ wz_k320_X7_takeFrom := fun w h => (List.mem_cons_of_mem _ (List.mem_append_right _ (List.mem_append_left _ h)))
  refine g_iconst (v := 0) hk dX7_takeFrom_0 (by decide) ?_
  refine g_istore_n (lv' := [(2, .int 0), (0, .ref (q 35)), (1, .ref (q 18))]) hk dX7_takeFrom_1 (by decide) rfl ?_
  have lp10081 : ∀ (n10082 : Nat) (x10064 : Int32) (I10067 : Nat → Int32) (A10067 : Nat → Nat → Int32), (Md [] I I10067) → (Md [20] A A10067) → (IvX I10067 A10067) → (0 ≤ x10064.toInt) → (x10064.toInt ≤ 4) → (5 - x10064.toInt < (n10082 : Int)) → (0 < n10082) → GW κ 3 0 0 (wX q d I10067 A10067) 2 [(2, .int x10064), (0, .ref (q 35)), (1, .ref (q 18))] [] := by
    intro n10082
    induction n10082 with
    | zero =>
      intro x10064 I10067 A10067 hI10067 hA10067 hV10067 h10079 h10080 m10083 m10083z
      exact absurd m10083z (Nat.lt_irrefl 0)
    | succ n10082 ih10084 =>
      intro x10064 I10067 A10067 hI10067 hA10067 hV10067 h10079 h10080 m10083 m10083z
      refine g_iload_n hk dX7_takeFrom_2 rfl ?_
      refine g_aload_n hk dX7_takeFrom_3 rfl ?_
      refine gX_r35_0 hk hin7 (List.mem_cons_of_mem _ (List.mem_append_left _ (List.mem_of_getElem? (i := 0) rfl))) dX7_takeFrom_4 ?_
      refine nX_20 hk dX7_takeFrom_7 ?_
      refine g_icmp_ge (tgt := 28) (a := x10064.toInt) (b := 4) hk dX7_takeFrom_8 (by decide) rfl rfl (fun c10085 => ?_) (fun c10085 => ?_)
      · skip
        exact g_vret hk hR ⟨I10067, A10067, (show Md [] I I10067 from (Md.tr Md.rf hI10067 rfl)), (show Md [20] A A10067 from (Md.tr Md.rf hA10067 rfl)), hV10067, rfl, rfl⟩ dX7_takeFrom_28
      · skip
        refine g_aload_n hk dX7_takeFrom_11 rfl ?_
        refine gX_r35_0 hk hin7 (List.mem_cons_of_mem _ (List.mem_append_left _ (List.mem_of_getElem? (i := 0) rfl))) dX7_takeFrom_12 ?_
        refine g_iload_n hk dX7_takeFrom_15 rfl ?_
        refine g_aload_n hk dX7_takeFrom_16 rfl ?_
        refine g_iload_n hk dX7_takeFrom_17 rfl ?_
        refine g_callV (n := 1) hk (k194_X7_valueOf l D zt q d I10067 A10067 x10064 hV10067) (SP.same _) (fun _ h => h) (gi_V (List.mem_cons_of_mem _ (List.mem_append_left _ (List.mem_of_getElem? (i := 1) rfl))) (List.mem_cons_of_mem _ (List.mem_append_left _ (List.mem_of_getElem? (i := 2) rfl))) (List.mem_cons_of_mem _ (List.mem_append_left _ (List.mem_of_getElem? (i := 3) rfl))) (List.mem_cons_of_mem _ (List.mem_append_left _ (List.mem_of_getElem? (i := 4) rfl))) (gi_sub (fun w h => (List.mem_cons_of_mem _ (List.mem_append_right _ (List.mem_append_right _ (List.mem_append_left _ h))))) zg_k194_X7_valueOf)) rfl rfl rfl (by decide +kernel) ⟨Nat.le_of_ble_eq_true rfl, Nat.le_of_ble_eq_true rfl⟩ 18 rfl rfl rfl rfl (Nat.le_of_ble_eq_true rfl) ⟨Nat.le_of_ble_eq_true rfl, Nat.le_of_ble_eq_true rfl⟩ dX7_takeFrom_18 (fun v ty' w' hp hk' => ?_)
        obtain ⟨y10086, rfl, rfl⟩ := hp
        show GW κ 3 0 0 (wX q d I10067 A10067) 21 [(2, .int x10064), (0, .ref (q 35)), (1, .ref (q 18))] [.int y10086, .int x10064, .ref (q 36)]
        refine sX_20 (j := x10064.toNatClampNeg) hk (vp_in_iff.mpr ⟨by omega, by omega⟩) rfl dX7_takeFrom_21 ?_
        obtain ⟨y10087, ey10087⟩ : ∃ y : Int32, y = x10064 + Int32.ofInt 1 := ⟨_, rfl⟩
        have hy10087 : y10087.toInt = x10064.toInt + 1 := i32_add ey10087 rfl (by decide) (by omega) (by omega)
        refine g_iinc (v := y10087) (lv' := [(2, .int y10087), (0, .ref (q 35)), (1, .ref (q 18))]) hk 0 dX7_takeFrom_22 rfl ey10087.symm (by decide) rfl ?_
        refine g_goto (tgt := 2) hk dX7_takeFrom_25 (by decide) ?_
        exact g_lv (List.forall_mem_cons.mpr ⟨List.mem_of_getElem? (i := 0) rfl, (List.forall_mem_cons.mpr ⟨List.mem_of_getElem? (i := 1) rfl, (List.forall_mem_cons.mpr ⟨List.mem_of_getElem? (i := 2) rfl, (fun _ h => absurd h List.not_mem_nil)⟩)⟩)⟩) (ih10084 y10087 I10067 (up3 A10067 20 (x10064.toNatClampNeg) y10086) (show Md [] I I10067 from Md.tr hI10067 (show Md [] I10067 I10067 from Md.rf) rfl) (show Md [20] A (up3 A10067 20 (x10064.toNatClampNeg) y10086) from Md.tr hA10067 (show Md [20] A10067 (up3 A10067 20 (x10064.toNatClampNeg) y10086) from (Md.up3 Md.rf rfl)) rfl) ⟨(IvX_f0 (I := I10067) (A := A10067) hV10067), (IvX_f18 (I := I10067) (A := A10067) hV10067), (IvX_f30 (I := I10067) (A := A10067) hV10067), (IvX_f31 (I := I10067) (A := A10067) hV10067), (IvX_a4 (I := I10067) (A := A10067) hV10067), (IvX_a9 (I := I10067) (A := A10067) hV10067), trivial⟩ (by omega) (by omega) (by omega) (by omega))
  have k10089 : (0 : Int32).toInt = 0 := rfl
  obtain ⟨n10088, n10088a, n10088b⟩ : ∃ n : Nat, 5 - 0 < (n : Int) ∧ 0 < n := ⟨((5 - 0 : Int)).toNat + 1, by omega, by omega⟩
  exact lp10081 n10088 0 I A Md.rf Md.rf hIv (by omega) (by omega) n10088a n10088b
def wo_k311_X11_hold : List Cond := [Cond.fieldLink RX11 56 "WarpDesk" "slots" "[LWarpDesk$Stand;", Cond.fieldLink RX11 28 "WarpDesk" "series" "LWarpDesk$Series;", Cond.methodLink RX11 362 yX6_copyInto, Cond.instanceMethod yX6_copyInto, Cond.selects RX6 yX6_copyInto yX6_copyInto, Cond.initialized RX6, Cond.fieldLink RX11 365 "WarpDesk$Stand" "settings" "LWarpDesk$Settings;", Cond.fieldLink RX11 42 "WarpDesk" "settings" "LWarpDesk$Settings;", Cond.methodLink RX11 366 yX7_takeFrom, Cond.instanceMethod yX7_takeFrom, Cond.selects RX7 yX7_takeFrom yX7_takeFrom, Cond.initialized RX7, Cond.fieldLink RX11 110 "WarpDesk$Stand" "held" "Z"]
def wz_k311_X11_hold : List Cond := .code yX11_hold cX11_hold 3 (some .boolean) :: (wo_k311_X11_hold ++ (wsX80 ++ (wsX110 ++ (wz_k312_X6_copyInto ++ (wz_k314_X7_takeFrom ++ (wz_k315_X6_copyInto ++ (wz_k317_X7_takeFrom ++ (wz_k318_X6_copyInto ++ (wz_k320_X7_takeFrom ++ ([] : List Cond))))))))))
theorem zg_k311_X11_hold : ∀ w ∈ wz_k311_X11_hold, goodWord w = true := zg_cons rfl (zg_app (by decide +kernel) (zg_app zgU_wsX80 (zg_app zgU_wsX110 (zg_app zg_k312_X6_copyInto (zg_app zg_k314_X7_takeFrom (zg_app zg_k315_X6_copyInto (zg_app zg_k317_X7_takeFrom (zg_app zg_k318_X6_copyInto (zg_app zg_k320_X7_takeFrom zg_nil)))))))))
theorem zi_k311_X11_hold : ∀ w ∈ wz_k311_X11_hold, w ∈ lw_tbl := zi_cons zw_1329 (zi_app (zi_cons zw_493 (zi_cons zw_489 (zi_cons zw_1330 (zi_cons zw_1331 (zi_cons zw_1332 (zi_cons zw_109 (zi_cons zw_200 (zi_cons zw_491 (zi_cons zw_781 (zi_cons zw_782 (zi_cons zw_783 (zi_cons zw_107 (zi_cons zw_201 zi_nil))))))))))))) (zi_app inX8 (zi_app inX11 (zi_app zi_k312_X6_copyInto (zi_app zi_k314_X7_takeFrom (zi_app zi_k315_X6_copyInto (zi_app zi_k317_X7_takeFrom (zi_app zi_k318_X6_copyInto (zi_app zi_k320_X7_takeFrom zi_nil)))))))))
set_option maxHeartbeats 4000000 in
set_option maxRecDepth 100000 in
theorem k311_X11_hold (l : Launch) (D : va_G) (zt : Nat × Nat × Nat × (Nat → Nat) × (Nat → Nat)) (q : Nat → Nat) (d : Nat → ClassId) (I : Nat → Int32) (A : Nat → Nat → Int32) (z1 : Int32) (hIv : IvX I A) : GM l D zt (tyX d) yX11_hold wz_k311_X11_hold ({ frames := 2, cells := 0, slots := 0, locals := 43 } : Room) [.ref (q 0), .int z1] (wX q d I A) (fun v _ w' => ∃ (I' : Nat → Int32) (A' : Nat → Nat → Int32), Md [22, 23, 24, 25, 26, 27] I I' ∧ Md [15, 16, 17, 18, 19, 20] A A' ∧ IvX I' A' ∧ ∃ y0 : Int32, (0 ≤ y0.toInt) ∧ (y0.toInt ≤ 1) ∧ v = some (.int y0) ∧ w' = wX q d I' A') 0 0 := by
  refine GM.of (cc := cX11_hold) (maxL := 3) (ret := (some .boolean)) (own := RX11) (lv := [(0, .ref (q 0)), (1, .int z1)]) (by decide) rfl rfl (Nat.le_of_ble_eq_true rfl) rfl (fun κ sz hk hR hN => ?_)
  have hin8 : ∀ w ∈ u_ws RX8 TX8 4, w ∈ wz_k311_X11_hold := fun w h => (List.mem_cons_of_mem _ (List.mem_append_right _ (List.mem_append_left _ h)))
  have hin11 : ∀ w ∈ u_ws RX11 TX11 10, w ∈ wz_k311_X11_hold := fun w h => (List.mem_cons_of_mem _ (List.mem_append_right _ (List.mem_append_right _ (List.mem_append_left _ h))))
  refine g_iload_n hk dX11_hold_0 rfl ?_
  have b9855l := Int32.le_toInt z1
  have b9855h := Int32.toInt_lt z1
  refine g_if_lt (tgt := 13) (a := z1.toInt) hk dX11_hold_1 (by decide) rfl (fun c9856 => ?_) (fun c9856 => ?_)
  · skip
    refine g_iconst (v := 0) hk dX11_hold_13 (by decide) ?_
    exact g_iret hk hR rfl ⟨I, A, (show Md [22, 23, 24, 25, 26, 27] I I from Md.rf), (show Md [15, 16, 17, 18, 19, 20] A A from Md.rf), hIv, 0, (by decide), (by decide), rfl, rfl⟩ dX11_hold_14
  · skip
    refine g_iload_n hk dX11_hold_4 rfl ?_
    refine g_aload_n hk dX11_hold_5 rfl ?_
    refine gX_r0_6 hk hin11 (List.mem_cons_of_mem _ (List.mem_append_left _ (List.mem_of_getElem? (i := 0) rfl))) dX11_hold_6 ?_
    refine nX_14 hk dX11_hold_9 ?_
    refine g_icmp_lt (tgt := 15) (a := z1.toInt) (b := 3) hk dX11_hold_10 (by decide) rfl rfl (fun c9857 => ?_) (fun c9857 => ?_)
    · skip
      refine g_aload_n hk dX11_hold_15 rfl ?_
      refine gX_r0_6 hk hin11 (List.mem_cons_of_mem _ (List.mem_append_left _ (List.mem_of_getElem? (i := 0) rfl))) dX11_hold_16 ?_
      refine g_iload_n hk dX11_hold_19 rfl ?_
      by_cases c9858 : z1.toInt = 0
      · have ec9858 : z1 = 0 := Int32.toInt_inj.mp c9858
        rw [ec9858]
        show GW κ 3 0 0 (wX q d I A) 20 [(0, .ref (q 0)), (1, .int 0)] [.int 0, .ref (q 24)]
        refine lX_14 hk (vp_in_iff.mpr ⟨by decide, by decide⟩) rfl dX11_hold_20 ?_
        refine g_astore_n (lv' := [(2, .ref (q 25)), (0, .ref (q 0)), (1, .int 0)]) hk dX11_hold_21 (by decide) rfl ?_
        refine g_aload_n hk dX11_hold_22 rfl ?_
        refine gX_r0_2 hk hin11 (List.mem_cons_of_mem _ (List.mem_append_left _ (List.mem_of_getElem? (i := 1) rfl))) dX11_hold_23 ?_
        refine g_aload_n hk dX11_hold_26 rfl ?_
        refine g_callV (n := 1) hk (k312_X6_copyInto l D zt q d I A  hIv) (SP.same _) (fun _ h => h) (gi_V (List.mem_cons_of_mem _ (List.mem_append_left _ (List.mem_of_getElem? (i := 2) rfl))) (List.mem_cons_of_mem _ (List.mem_append_left _ (List.mem_of_getElem? (i := 3) rfl))) (List.mem_cons_of_mem _ (List.mem_append_left _ (List.mem_of_getElem? (i := 4) rfl))) (List.mem_cons_of_mem _ (List.mem_append_left _ (List.mem_of_getElem? (i := 5) rfl))) (gi_sub (fun w h => (List.mem_cons_of_mem _ (List.mem_append_right _ (List.mem_append_right _ (List.mem_append_right _ (List.mem_append_left _ h)))))) zg_k312_X6_copyInto)) rfl rfl rfl (by decide +kernel) ⟨Nat.le_of_ble_eq_true rfl, Nat.le_of_ble_eq_true rfl⟩ 13 rfl rfl rfl rfl (Nat.le_of_ble_eq_true rfl) ⟨Nat.le_of_ble_eq_true rfl, Nat.le_of_ble_eq_true rfl⟩ dX11_hold_27 (fun v ty' w' hp hk' => ?_)
        obtain ⟨I9907, A9907, hI9907, hA9907, hV9907, rfl, rfl⟩ := hp
        show GW κ 3 0 0 (wX q d I9907 A9907) 30 [(2, .ref (q 25)), (0, .ref (q 0)), (1, .int 0)] []
        refine g_aload_n hk dX11_hold_30 rfl ?_
        refine gX_r25_2 hk hin8 (List.mem_cons_of_mem _ (List.mem_append_left _ (List.mem_of_getElem? (i := 6) rfl))) dX11_hold_31 ?_
        refine g_aload_n hk dX11_hold_34 rfl ?_
        refine gX_r0_4 hk hin11 (List.mem_cons_of_mem _ (List.mem_append_left _ (List.mem_of_getElem? (i := 7) rfl))) dX11_hold_35 ?_
        refine g_callV (n := 1) hk (k314_X7_takeFrom l D zt q d I9907 A9907  hV9907) (SP.same _) (fun _ h => h) (gi_V (List.mem_cons_of_mem _ (List.mem_append_left _ (List.mem_of_getElem? (i := 8) rfl))) (List.mem_cons_of_mem _ (List.mem_append_left _ (List.mem_of_getElem? (i := 9) rfl))) (List.mem_cons_of_mem _ (List.mem_append_left _ (List.mem_of_getElem? (i := 10) rfl))) (List.mem_cons_of_mem _ (List.mem_append_left _ (List.mem_of_getElem? (i := 11) rfl))) (gi_sub (fun w h => (List.mem_cons_of_mem _ (List.mem_append_right _ (List.mem_append_right _ (List.mem_append_right _ (List.mem_append_right _ (List.mem_append_left _ h))))))) zg_k314_X7_takeFrom)) rfl rfl rfl (by decide +kernel) ⟨Nat.le_of_ble_eq_true rfl, Nat.le_of_ble_eq_true rfl⟩ 27 rfl rfl rfl rfl (Nat.le_of_ble_eq_true rfl) ⟨Nat.le_of_ble_eq_true rfl, Nat.le_of_ble_eq_true rfl⟩ dX11_hold_38 (fun v ty' w' hp hk' => ?_)
        obtain ⟨I9935, A9935, hI9935, hA9935, hV9935, rfl, rfl⟩ := hp
        show GW κ 3 0 0 (wX q d I9935 A9935) 41 [(2, .ref (q 25)), (0, .ref (q 0)), (1, .int 0)] []
        refine g_aload_n hk dX11_hold_41 rfl ?_
        refine g_iconst (v := 1) hk dX11_hold_42 (by decide) ?_
        refine pX_i23 hk hin8 (List.mem_cons_of_mem _ (List.mem_append_left _ (List.mem_of_getElem? (i := 12) rfl))) ⟨rfl, rfl⟩ dX11_hold_43 ?_
        refine g_iconst (v := 1) hk dX11_hold_46 (by decide) ?_
        exact g_iret hk hR rfl ⟨(upd I9935 23 1), A9935, (show Md [22, 23, 24, 25, 26, 27] I (upd I9935 23 1) from (Md.up (Md.tr (Md.tr Md.rf hI9907 rfl) hI9935 rfl) rfl)), (show Md [15, 16, 17, 18, 19, 20] A A9935 from (Md.tr (Md.tr Md.rf hA9907 rfl) hA9935 rfl)), ⟨(IvX_f0 (I := I9935) (A := A9935) hV9935), (IvX_f18 (I := I9935) (A := A9935) hV9935), (IvX_f30 (I := I9935) (A := A9935) hV9935), (IvX_f31 (I := I9935) (A := A9935) hV9935), (IvX_a4 (I := I9935) (A := A9935) hV9935), (IvX_a9 (I := I9935) (A := A9935) hV9935), trivial⟩, 1, (by decide), (by decide), rfl, rfl⟩ dX11_hold_47
      by_cases c9936 : z1.toInt = 1
      · have ec9936 : z1 = 1 := Int32.toInt_inj.mp c9936
        rw [ec9936]
        show GW κ 3 0 0 (wX q d I A) 20 [(0, .ref (q 0)), (1, .int 1)] [.int 1, .ref (q 24)]
        refine lX_14 hk (vp_in_iff.mpr ⟨by decide, by decide⟩) rfl dX11_hold_20 ?_
        refine g_astore_n (lv' := [(2, .ref (q 29)), (0, .ref (q 0)), (1, .int 1)]) hk dX11_hold_21 (by decide) rfl ?_
        refine g_aload_n hk dX11_hold_22 rfl ?_
        refine gX_r0_2 hk hin11 (List.mem_cons_of_mem _ (List.mem_append_left _ (List.mem_of_getElem? (i := 1) rfl))) dX11_hold_23 ?_
        refine g_aload_n hk dX11_hold_26 rfl ?_
        refine g_callV (n := 1) hk (k315_X6_copyInto l D zt q d I A  hIv) (SP.same _) (fun _ h => h) (gi_V (List.mem_cons_of_mem _ (List.mem_append_left _ (List.mem_of_getElem? (i := 2) rfl))) (List.mem_cons_of_mem _ (List.mem_append_left _ (List.mem_of_getElem? (i := 3) rfl))) (List.mem_cons_of_mem _ (List.mem_append_left _ (List.mem_of_getElem? (i := 4) rfl))) (List.mem_cons_of_mem _ (List.mem_append_left _ (List.mem_of_getElem? (i := 5) rfl))) (gi_sub (fun w h => (List.mem_cons_of_mem _ (List.mem_append_right _ (List.mem_append_right _ (List.mem_append_right _ (List.mem_append_right _ (List.mem_append_right _ (List.mem_append_left _ h)))))))) zg_k315_X6_copyInto)) rfl rfl rfl (by decide +kernel) ⟨Nat.le_of_ble_eq_true rfl, Nat.le_of_ble_eq_true rfl⟩ 13 rfl rfl rfl rfl (Nat.le_of_ble_eq_true rfl) ⟨Nat.le_of_ble_eq_true rfl, Nat.le_of_ble_eq_true rfl⟩ dX11_hold_27 (fun v ty' w' hp hk' => ?_)
        obtain ⟨I9985, A9985, hI9985, hA9985, hV9985, rfl, rfl⟩ := hp
        show GW κ 3 0 0 (wX q d I9985 A9985) 30 [(2, .ref (q 29)), (0, .ref (q 0)), (1, .int 1)] []
        refine g_aload_n hk dX11_hold_30 rfl ?_
        refine gX_r29_2 hk hin8 (List.mem_cons_of_mem _ (List.mem_append_left _ (List.mem_of_getElem? (i := 6) rfl))) dX11_hold_31 ?_
        refine g_aload_n hk dX11_hold_34 rfl ?_
        refine gX_r0_4 hk hin11 (List.mem_cons_of_mem _ (List.mem_append_left _ (List.mem_of_getElem? (i := 7) rfl))) dX11_hold_35 ?_
        refine g_callV (n := 1) hk (k317_X7_takeFrom l D zt q d I9985 A9985  hV9985) (SP.same _) (fun _ h => h) (gi_V (List.mem_cons_of_mem _ (List.mem_append_left _ (List.mem_of_getElem? (i := 8) rfl))) (List.mem_cons_of_mem _ (List.mem_append_left _ (List.mem_of_getElem? (i := 9) rfl))) (List.mem_cons_of_mem _ (List.mem_append_left _ (List.mem_of_getElem? (i := 10) rfl))) (List.mem_cons_of_mem _ (List.mem_append_left _ (List.mem_of_getElem? (i := 11) rfl))) (gi_sub (fun w h => (List.mem_cons_of_mem _ (List.mem_append_right _ (List.mem_append_right _ (List.mem_append_right _ (List.mem_append_right _ (List.mem_append_right _ (List.mem_append_right _ (List.mem_append_left _ h))))))))) zg_k317_X7_takeFrom)) rfl rfl rfl (by decide +kernel) ⟨Nat.le_of_ble_eq_true rfl, Nat.le_of_ble_eq_true rfl⟩ 31 rfl rfl rfl rfl (Nat.le_of_ble_eq_true rfl) ⟨Nat.le_of_ble_eq_true rfl, Nat.le_of_ble_eq_true rfl⟩ dX11_hold_38 (fun v ty' w' hp hk' => ?_)
        obtain ⟨I10013, A10013, hI10013, hA10013, hV10013, rfl, rfl⟩ := hp
        show GW κ 3 0 0 (wX q d I10013 A10013) 41 [(2, .ref (q 29)), (0, .ref (q 0)), (1, .int 1)] []
        refine g_aload_n hk dX11_hold_41 rfl ?_
        refine g_iconst (v := 1) hk dX11_hold_42 (by decide) ?_
        refine pX_i25 hk hin8 (List.mem_cons_of_mem _ (List.mem_append_left _ (List.mem_of_getElem? (i := 12) rfl))) ⟨rfl, rfl⟩ dX11_hold_43 ?_
        refine g_iconst (v := 1) hk dX11_hold_46 (by decide) ?_
        exact g_iret hk hR rfl ⟨(upd I10013 25 1), A10013, (show Md [22, 23, 24, 25, 26, 27] I (upd I10013 25 1) from (Md.up (Md.tr (Md.tr Md.rf hI9985 rfl) hI10013 rfl) rfl)), (show Md [15, 16, 17, 18, 19, 20] A A10013 from (Md.tr (Md.tr Md.rf hA9985 rfl) hA10013 rfl)), ⟨(IvX_f0 (I := I10013) (A := A10013) hV10013), (IvX_f18 (I := I10013) (A := A10013) hV10013), (IvX_f30 (I := I10013) (A := A10013) hV10013), (IvX_f31 (I := I10013) (A := A10013) hV10013), (IvX_a4 (I := I10013) (A := A10013) hV10013), (IvX_a9 (I := I10013) (A := A10013) hV10013), trivial⟩, 1, (by decide), (by decide), rfl, rfl⟩ dX11_hold_47
      by_cases c10014 : z1.toInt = 2
      · have ec10014 : z1 = 2 := Int32.toInt_inj.mp c10014
        rw [ec10014]
        show GW κ 3 0 0 (wX q d I A) 20 [(0, .ref (q 0)), (1, .int 2)] [.int 2, .ref (q 24)]
        refine lX_14 hk (vp_in_iff.mpr ⟨by decide, by decide⟩) rfl dX11_hold_20 ?_
        refine g_astore_n (lv' := [(2, .ref (q 33)), (0, .ref (q 0)), (1, .int 2)]) hk dX11_hold_21 (by decide) rfl ?_
        refine g_aload_n hk dX11_hold_22 rfl ?_
        refine gX_r0_2 hk hin11 (List.mem_cons_of_mem _ (List.mem_append_left _ (List.mem_of_getElem? (i := 1) rfl))) dX11_hold_23 ?_
        refine g_aload_n hk dX11_hold_26 rfl ?_
        refine g_callV (n := 1) hk (k318_X6_copyInto l D zt q d I A  hIv) (SP.same _) (fun _ h => h) (gi_V (List.mem_cons_of_mem _ (List.mem_append_left _ (List.mem_of_getElem? (i := 2) rfl))) (List.mem_cons_of_mem _ (List.mem_append_left _ (List.mem_of_getElem? (i := 3) rfl))) (List.mem_cons_of_mem _ (List.mem_append_left _ (List.mem_of_getElem? (i := 4) rfl))) (List.mem_cons_of_mem _ (List.mem_append_left _ (List.mem_of_getElem? (i := 5) rfl))) (gi_sub (fun w h => (List.mem_cons_of_mem _ (List.mem_append_right _ (List.mem_append_right _ (List.mem_append_right _ (List.mem_append_right _ (List.mem_append_right _ (List.mem_append_right _ (List.mem_append_right _ (List.mem_append_left _ h)))))))))) zg_k318_X6_copyInto)) rfl rfl rfl (by decide +kernel) ⟨Nat.le_of_ble_eq_true rfl, Nat.le_of_ble_eq_true rfl⟩ 13 rfl rfl rfl rfl (Nat.le_of_ble_eq_true rfl) ⟨Nat.le_of_ble_eq_true rfl, Nat.le_of_ble_eq_true rfl⟩ dX11_hold_27 (fun v ty' w' hp hk' => ?_)
        obtain ⟨I10063, A10063, hI10063, hA10063, hV10063, rfl, rfl⟩ := hp
        show GW κ 3 0 0 (wX q d I10063 A10063) 30 [(2, .ref (q 33)), (0, .ref (q 0)), (1, .int 2)] []
        refine g_aload_n hk dX11_hold_30 rfl ?_
        refine gX_r33_2 hk hin8 (List.mem_cons_of_mem _ (List.mem_append_left _ (List.mem_of_getElem? (i := 6) rfl))) dX11_hold_31 ?_
        refine g_aload_n hk dX11_hold_34 rfl ?_
        refine gX_r0_4 hk hin11 (List.mem_cons_of_mem _ (List.mem_append_left _ (List.mem_of_getElem? (i := 7) rfl))) dX11_hold_35 ?_
        refine g_callV (n := 1) hk (k320_X7_takeFrom l D zt q d I10063 A10063  hV10063) (SP.same _) (fun _ h => h) (gi_V (List.mem_cons_of_mem _ (List.mem_append_left _ (List.mem_of_getElem? (i := 8) rfl))) (List.mem_cons_of_mem _ (List.mem_append_left _ (List.mem_of_getElem? (i := 9) rfl))) (List.mem_cons_of_mem _ (List.mem_append_left _ (List.mem_of_getElem? (i := 10) rfl))) (List.mem_cons_of_mem _ (List.mem_append_left _ (List.mem_of_getElem? (i := 11) rfl))) (gi_sub (fun w h => (List.mem_cons_of_mem _ (List.mem_append_right _ (List.mem_append_right _ (List.mem_append_right _ (List.mem_append_right _ (List.mem_append_right _ (List.mem_append_right _ (List.mem_append_right _ (List.mem_append_right _ (List.mem_append_left _ h))))))))))) zg_k320_X7_takeFrom)) rfl rfl rfl (by decide +kernel) ⟨Nat.le_of_ble_eq_true rfl, Nat.le_of_ble_eq_true rfl⟩ 35 rfl rfl rfl rfl (Nat.le_of_ble_eq_true rfl) ⟨Nat.le_of_ble_eq_true rfl, Nat.le_of_ble_eq_true rfl⟩ dX11_hold_38 (fun v ty' w' hp hk' => ?_)
        obtain ⟨I10091, A10091, hI10091, hA10091, hV10091, rfl, rfl⟩ := hp
        show GW κ 3 0 0 (wX q d I10091 A10091) 41 [(2, .ref (q 33)), (0, .ref (q 0)), (1, .int 2)] []
        refine g_aload_n hk dX11_hold_41 rfl ?_
        refine g_iconst (v := 1) hk dX11_hold_42 (by decide) ?_
        refine pX_i27 hk hin8 (List.mem_cons_of_mem _ (List.mem_append_left _ (List.mem_of_getElem? (i := 12) rfl))) ⟨rfl, rfl⟩ dX11_hold_43 ?_
        refine g_iconst (v := 1) hk dX11_hold_46 (by decide) ?_
        exact g_iret hk hR rfl ⟨(upd I10091 27 1), A10091, (show Md [22, 23, 24, 25, 26, 27] I (upd I10091 27 1) from (Md.up (Md.tr (Md.tr Md.rf hI10063 rfl) hI10091 rfl) rfl)), (show Md [15, 16, 17, 18, 19, 20] A A10091 from (Md.tr (Md.tr Md.rf hA10063 rfl) hA10091 rfl)), ⟨(IvX_f0 (I := I10091) (A := A10091) hV10091), (IvX_f18 (I := I10091) (A := A10091) hV10091), (IvX_f30 (I := I10091) (A := A10091) hV10091), (IvX_f31 (I := I10091) (A := A10091) hV10091), (IvX_a4 (I := I10091) (A := A10091) hV10091), (IvX_a9 (I := I10091) (A := A10091) hV10091), trivial⟩, 1, (by decide), (by decide), rfl, rfl⟩ dX11_hold_47
      exfalso; omega
    · skip
      refine g_iconst (v := 0) hk dX11_hold_13 (by decide) ?_
      exact g_iret hk hR rfl ⟨I, A, (show Md [22, 23, 24, 25, 26, 27] I I from Md.rf), (show Md [15, 16, 17, 18, 19, 20] A A from Md.rf), hIv, 0, (by decide), (by decide), rfl, rfl⟩ dX11_hold_14
def wo_k324_X8_valueAt : List Cond := [Cond.fieldLink RX8 22 "WarpDesk$Stand" "size" "I", Cond.fieldLink RX8 9 "WarpDesk$Stand" "places" "[I"]
def wz_k324_X8_valueAt : List Cond := .code yX8_valueAt cX8_valueAt 2 (some .int) :: (wo_k324_X8_valueAt ++ (wsX80 ++ ([] : List Cond)))
theorem zg_k324_X8_valueAt : ∀ w ∈ wz_k324_X8_valueAt, goodWord w = true := zg_cons rfl (zg_app (by decide +kernel) (zg_app zgU_wsX80 zg_nil))
theorem zi_k324_X8_valueAt : ∀ w ∈ wz_k324_X8_valueAt, w ∈ lw_tbl := zi_cons zw_776 (zi_app (zi_cons zw_195 (zi_cons zw_194 zi_nil)) (zi_app inX8 zi_nil))
set_option maxHeartbeats 4000000 in
set_option maxRecDepth 100000 in
theorem k324_X8_valueAt (l : Launch) (D : va_G) (zt : Nat × Nat × Nat × (Nat → Nat) × (Nat → Nat)) (q : Nat → Nat) (d : Nat → ClassId) (I : Nat → Int32) (A : Nat → Nat → Int32) (z1 : Int32) (hIv : IvX I A) : GM l D zt (tyX d) yX8_valueAt wz_k324_X8_valueAt ({ frames := 0, cells := 0, slots := 0, locals := 0 } : Room) [.ref (q 25), .int z1] (wX q d I A) (fun v _ w' => ∃ y0 : Int32, v = some (.int y0) ∧ w' = wX q d I A) 0 0 := by
  refine GM.of (cc := cX8_valueAt) (maxL := 2) (ret := (some .int)) (own := RX8) (lv := [(0, .ref (q 25)), (1, .int z1)]) (by decide) rfl rfl (Nat.le_of_ble_eq_true rfl) rfl (fun κ sz hk hR hN => ?_)
  have hin8 : ∀ w ∈ u_ws RX8 TX8 4, w ∈ wz_k324_X8_valueAt := fun w h => (List.mem_cons_of_mem _ (List.mem_append_right _ (List.mem_append_left _ h)))
  refine g_iload_n hk dX8_valueAt_0 rfl ?_
  have b10104l := Int32.le_toInt z1
  have b10104h := Int32.toInt_lt z1
  refine g_if_lt (tgt := 30) (a := z1.toInt) hk dX8_valueAt_1 (by decide) rfl (fun c10105 => ?_) (fun c10105 => ?_)
  · skip
    refine g_sipush (v := (-1000)) hk dX8_valueAt_30 (by decide) ?_
    exact g_iret hk hR rfl ⟨(-1000), rfl, rfl⟩ dX8_valueAt_33
  · skip
    refine g_iload_n hk dX8_valueAt_4 rfl ?_
    refine g_aload_n hk dX8_valueAt_5 rfl ?_
    refine gX_i22 (v := (I 22)) hk hin8 (List.mem_cons_of_mem _ (List.mem_append_left _ (List.mem_of_getElem? (i := 0) rfl))) dX8_valueAt_6 rfl ?_
    have b10106l := Int32.le_toInt (I 22)
    have b10106h := Int32.toInt_lt (I 22)
    refine g_icmp_ge (tgt := 30) (a := z1.toInt) (b := (I 22).toInt) hk dX8_valueAt_9 (by decide) rfl rfl (fun c10107 => ?_) (fun c10107 => ?_)
    · skip
      refine g_sipush (v := (-1000)) hk dX8_valueAt_30 (by decide) ?_
      exact g_iret hk hR rfl ⟨(-1000), rfl, rfl⟩ dX8_valueAt_33
    · skip
      refine g_iload_n hk dX8_valueAt_12 rfl ?_
      refine g_aload_n hk dX8_valueAt_13 rfl ?_
      refine gX_r25_0 hk hin8 (List.mem_cons_of_mem _ (List.mem_append_left _ (List.mem_of_getElem? (i := 1) rfl))) dX8_valueAt_14 ?_
      refine nX_15 hk dX8_valueAt_17 ?_
      refine g_icmp_ge (tgt := 30) (a := z1.toInt) (b := 160) hk dX8_valueAt_18 (by decide) rfl rfl (fun c10108 => ?_) (fun c10108 => ?_)
      · skip
        refine g_sipush (v := (-1000)) hk dX8_valueAt_30 (by decide) ?_
        exact g_iret hk hR rfl ⟨(-1000), rfl, rfl⟩ dX8_valueAt_33
      · skip
        refine g_aload_n hk dX8_valueAt_21 rfl ?_
        refine gX_r25_0 hk hin8 (List.mem_cons_of_mem _ (List.mem_append_left _ (List.mem_of_getElem? (i := 1) rfl))) dX8_valueAt_22 ?_
        refine g_iload_n hk dX8_valueAt_25 rfl ?_
        refine lX_15 (v := (A 15 z1.toNatClampNeg)) hk (vp_in_iff.mpr ⟨by omega, by omega⟩) rfl dX8_valueAt_26 ?_
        refine g_goto (tgt := 33) hk dX8_valueAt_27 (by decide) ?_
        have b10109l := Int32.le_toInt (A 15 z1.toNatClampNeg)
        have b10109h := Int32.toInt_lt (A 15 z1.toNatClampNeg)
        exact g_iret hk hR rfl ⟨(A 15 z1.toNatClampNeg), rfl, rfl⟩ dX8_valueAt_33
def wo_k323_X6_takeFrom : List Cond := [Cond.fieldLink RX6 15 "WarpDesk$Series" "first" "I", Cond.fieldLink RX6 19 "WarpDesk$Series" "size" "I", Cond.fieldLink RX6 22 "WarpDesk$Stand" "size" "I", Cond.methodLink RX6 25 yX8_valueAt, Cond.instanceMethod yX8_valueAt, Cond.selects RX8 yX8_valueAt yX8_valueAt, Cond.initialized RX8, Cond.methodLink RX6 29 yX6_append, Cond.instanceMethod yX6_append, Cond.selects RX6 yX6_append yX6_append, Cond.initialized RX6]
def wz_k323_X6_takeFrom : List Cond := .code yX6_takeFrom cX6_takeFrom 3 none :: (wo_k323_X6_takeFrom ++ (wsX60 ++ (wsX80 ++ (wz_k324_X8_valueAt ++ (wz_k172_X6_append ++ ([] : List Cond))))))
theorem zg_k323_X6_takeFrom : ∀ w ∈ wz_k323_X6_takeFrom, goodWord w = true := zg_cons rfl (zg_app (by decide +kernel) (zg_app zgU_wsX60 (zg_app zgU_wsX80 (zg_app zg_k324_X8_valueAt (zg_app zg_k172_X6_append zg_nil)))))
theorem zi_k323_X6_takeFrom : ∀ w ∈ wz_k323_X6_takeFrom, w ∈ lw_tbl := zi_cons zw_772 (zi_app (zi_cons zw_281 (zi_cons zw_282 (zi_cons zw_196 (zi_cons zw_773 (zi_cons zw_774 (zi_cons zw_775 (zi_cons zw_106 (zi_cons zw_777 (zi_cons zw_778 (zi_cons zw_779 (zi_cons zw_109 zi_nil))))))))))) (zi_app inX6 (zi_app inX8 (zi_app zi_k324_X8_valueAt (zi_app zi_k172_X6_append zi_nil)))))
set_option maxHeartbeats 4000000 in
set_option maxRecDepth 100000 in
theorem k323_X6_takeFrom (l : Launch) (D : va_G) (zt : Nat × Nat × Nat × (Nat → Nat) × (Nat → Nat)) (q : Nat → Nat) (d : Nat → ClassId) (I : Nat → Int32) (A : Nat → Nat → Int32) (hIv : IvX I A) : GM l D zt (tyX d) yX6_takeFrom wz_k323_X6_takeFrom ({ frames := 1, cells := 0, slots := 0, locals := 21 } : Room) [.ref (q 13), .ref (q 25)] (wX q d I A) (fun v _ w' => ∃ (I' : Nat → Int32) (A' : Nat → Nat → Int32), Md [17, 18] I I' ∧ Md [7] A A' ∧ IvX I' A' ∧ v = none ∧ w' = wX q d I' A') 0 0 := by
  refine GM.of (cc := cX6_takeFrom) (maxL := 3) (ret := none) (own := RX6) (lv := [(0, .ref (q 13)), (1, .ref (q 25))]) (by decide) rfl rfl (Nat.le_of_ble_eq_true rfl) rfl (fun κ sz hk hR hN => ?_)
  have hin6 : ∀ w ∈ u_ws RX6 TX6 3, w ∈ wz_k323_X6_takeFrom := fun w h => (List.mem_cons_of_mem _ (List.mem_append_right _ (List.mem_append_left _ h)))
  have hin8 : ∀ w ∈ u_ws RX8 TX8 4, w ∈ wz_k323_X6_takeFrom := fun w h => (List.mem_cons_of_mem _ (List.mem_append_right _ (List.mem_append_right _ (List.mem_append_left _ h))))
  refine g_aload_n hk dX6_takeFrom_0 rfl ?_
  refine g_iconst (v := 0) hk dX6_takeFrom_1 (by decide) ?_
  refine pX_i17 hk hin6 (List.mem_cons_of_mem _ (List.mem_append_left _ (List.mem_of_getElem? (i := 0) rfl))) dX6_takeFrom_2 ?_
  refine g_aload_n hk dX6_takeFrom_5 rfl ?_
  refine g_iconst (v := 0) hk dX6_takeFrom_6 (by decide) ?_
  refine pX_i18 hk hin6 (List.mem_cons_of_mem _ (List.mem_append_left _ (List.mem_of_getElem? (i := 1) rfl))) dX6_takeFrom_7 ?_
  refine g_iconst (v := 0) hk dX6_takeFrom_10 (by decide) ?_
  refine g_istore_n (lv' := [(2, .int 0), (0, .ref (q 13)), (1, .ref (q 25))]) hk dX6_takeFrom_11 (by decide) rfl ?_
  have lp10134 : ∀ (n10135 : Nat) (x10098 : Int32) (I10101 : Nat → Int32) (A10101 : Nat → Nat → Int32), (Md [17, 18] (upd (upd I 17 0) 18 0) I10101) → (Md [7] A A10101) → (IvX I10101 A10101) → (0 ≤ x10098.toInt) → ((I 22).toInt + 1 - x10098.toInt < (n10135 : Int)) → (0 < n10135) → GW κ 3 0 0 (wX q d I10101 A10101) 12 [(2, .int x10098), (0, .ref (q 13)), (1, .ref (q 25))] [] := by
    intro n10135
    induction n10135 with
    | zero =>
      intro x10098 I10101 A10101 hI10101 hA10101 hV10101 h10133 m10136 m10136z
      exact absurd m10136z (Nat.lt_irrefl 0)
    | succ n10135 ih10137 =>
      intro x10098 I10101 A10101 hI10101 hA10101 hV10101 h10133 m10136 m10136z
      refine g_iload_n hk dX6_takeFrom_12 rfl ?_
      refine g_aload_n hk dX6_takeFrom_13 rfl ?_
      refine gX_i22 (v := (I 22)) hk hin8 (List.mem_cons_of_mem _ (List.mem_append_left _ (List.mem_of_getElem? (i := 2) rfl))) dX6_takeFrom_14 (hI10101 22 rfl) ?_
      have b10138l := Int32.le_toInt x10098
      have b10138h := Int32.toInt_lt x10098
      have b10139l := Int32.le_toInt (I 22)
      have b10139h := Int32.toInt_lt (I 22)
      refine g_icmp_ge (tgt := 36) (a := x10098.toInt) (b := (I 22).toInt) hk dX6_takeFrom_17 (by decide) rfl rfl (fun c10140 => ?_) (fun c10140 => ?_)
      · skip
        exact g_vret hk hR ⟨I10101, A10101, (show Md [17, 18] I I10101 from (Md.tr (Md.up (Md.up Md.rf rfl) rfl) hI10101 rfl)), (show Md [7] A A10101 from (Md.tr Md.rf hA10101 rfl)), hV10101, rfl, rfl⟩ dX6_takeFrom_36
      · skip
        refine g_aload_n hk dX6_takeFrom_20 rfl ?_
        refine g_aload_n hk dX6_takeFrom_21 rfl ?_
        refine g_iload_n hk dX6_takeFrom_22 rfl ?_
        refine g_callV (n := 1) hk (k324_X8_valueAt l D zt q d I10101 A10101 x10098 hV10101) (SP.same _) (fun _ h => h) (gi_V (List.mem_cons_of_mem _ (List.mem_append_left _ (List.mem_of_getElem? (i := 3) rfl))) (List.mem_cons_of_mem _ (List.mem_append_left _ (List.mem_of_getElem? (i := 4) rfl))) (List.mem_cons_of_mem _ (List.mem_append_left _ (List.mem_of_getElem? (i := 5) rfl))) (List.mem_cons_of_mem _ (List.mem_append_left _ (List.mem_of_getElem? (i := 6) rfl))) (gi_sub (fun w h => (List.mem_cons_of_mem _ (List.mem_append_right _ (List.mem_append_right _ (List.mem_append_right _ (List.mem_append_left _ h)))))) zg_k324_X8_valueAt)) rfl rfl rfl (by decide +kernel) ⟨Nat.le_of_ble_eq_true rfl, Nat.le_of_ble_eq_true rfl⟩ 25 rfl rfl rfl rfl (Nat.le_of_ble_eq_true rfl) ⟨Nat.le_of_ble_eq_true rfl, Nat.le_of_ble_eq_true rfl⟩ dX6_takeFrom_23 (fun v ty' w' hp hk' => ?_)
        obtain ⟨y10141, rfl, rfl⟩ := hp
        show GW κ 3 0 0 (wX q d I10101 A10101) 26 [(2, .int x10098), (0, .ref (q 13)), (1, .ref (q 25))] [.int y10141, .ref (q 13)]
        refine g_callV (n := 1) hk (k172_X6_append l D zt q d I10101 A10101 y10141 hV10101) (SP.same _) (fun _ h => h) (gi_V (List.mem_cons_of_mem _ (List.mem_append_left _ (List.mem_of_getElem? (i := 7) rfl))) (List.mem_cons_of_mem _ (List.mem_append_left _ (List.mem_of_getElem? (i := 8) rfl))) (List.mem_cons_of_mem _ (List.mem_append_left _ (List.mem_of_getElem? (i := 9) rfl))) (List.mem_cons_of_mem _ (List.mem_append_left _ (List.mem_of_getElem? (i := 10) rfl))) (gi_sub (fun w h => (List.mem_cons_of_mem _ (List.mem_append_right _ (List.mem_append_right _ (List.mem_append_right _ (List.mem_append_right _ (List.mem_append_left _ h))))))) zg_k172_X6_append)) rfl rfl rfl (by decide +kernel) ⟨Nat.le_of_ble_eq_true rfl, Nat.le_of_ble_eq_true rfl⟩ 13 rfl rfl rfl rfl (Nat.le_of_ble_eq_true rfl) ⟨Nat.le_of_ble_eq_true rfl, Nat.le_of_ble_eq_true rfl⟩ dX6_takeFrom_26 (fun v ty' w' hp hk' => ?_)
        obtain ⟨I10145, A10145, hI10145, hA10145, hV10145, y10142, c10143, c10144, rfl, rfl⟩ := hp
        show GW κ 3 0 0 (wX q d I10145 A10145) 29 [(2, .int x10098), (0, .ref (q 13)), (1, .ref (q 25))] [.int y10142]
        refine g_pop hk dX6_takeFrom_29 rfl ?_
        obtain ⟨y10146, ey10146⟩ : ∃ y : Int32, y = x10098 + Int32.ofInt 1 := ⟨_, rfl⟩
        have hy10146 : y10146.toInt = x10098.toInt + 1 := i32_add ey10146 rfl (by decide) (by omega) (by omega)
        refine g_iinc (v := y10146) (lv' := [(2, .int y10146), (0, .ref (q 13)), (1, .ref (q 25))]) hk 0 dX6_takeFrom_30 rfl ey10146.symm (by decide) rfl ?_
        refine g_goto (tgt := 12) hk dX6_takeFrom_33 (by decide) ?_
        exact g_lv (List.forall_mem_cons.mpr ⟨List.mem_of_getElem? (i := 0) rfl, (List.forall_mem_cons.mpr ⟨List.mem_of_getElem? (i := 1) rfl, (List.forall_mem_cons.mpr ⟨List.mem_of_getElem? (i := 2) rfl, (fun _ h => absurd h List.not_mem_nil)⟩)⟩)⟩) (ih10137 y10146 I10145 A10145 (show Md [17, 18] (upd (upd I 17 0) 18 0) I10145 from Md.tr hI10101 (show Md [17, 18] I10101 I10145 from (Md.tr Md.rf hI10145 rfl)) rfl) (show Md [7] A A10145 from Md.tr hA10101 (show Md [7] A10101 A10145 from (Md.tr Md.rf hA10145 rfl)) rfl) hV10145 (by omega) (by omega) (by omega))
  have k10148 : (0 : Int32).toInt = 0 := rfl
  obtain ⟨n10147, n10147a, n10147b⟩ : ∃ n : Nat, (I 22).toInt + 1 - 0 < (n : Int) ∧ 0 < n := ⟨(((I 22).toInt + 1 - 0 : Int)).toNat + 1, by omega, by omega⟩
  exact lp10134 n10147 0 (upd (upd I 17 0) 18 0) A Md.rf Md.rf ⟨(IvX_f0 (I := I) (A := A) hIv), (show 0 ≤ (0 : Int32).toInt ∧ (0 : Int32).toInt ≤ 160 from ⟨by decide, by decide⟩), (IvX_f30 (I := I) (A := A) hIv), (IvX_f31 (I := I) (A := A) hIv), (IvX_a4 (I := I) (A := A) hIv), (IvX_a9 (I := I) (A := A) hIv), trivial⟩ (by omega) n10147a n10147b
def wo_k326_X7_valueOf : List Cond := [Cond.fieldLink RX7 20 "WarpDesk$Settings" "values" "[I"]
def wz_k326_X7_valueOf : List Cond := .code yX7_valueOf cX7_valueOf 2 (some .int) :: (wo_k326_X7_valueOf ++ (wsX70 ++ ([] : List Cond)))
theorem zg_k326_X7_valueOf : ∀ w ∈ wz_k326_X7_valueOf, goodWord w = true := zg_cons rfl (zg_app (by decide +kernel) (zg_app zgU_wsX70 zg_nil))
theorem zi_k326_X7_valueOf : ∀ w ∈ wz_k326_X7_valueOf, w ∈ lw_tbl := zi_cons zw_788 (zi_app (zi_cons zw_190 zi_nil) (zi_app inX7 zi_nil))
set_option maxHeartbeats 4000000 in
set_option maxRecDepth 100000 in
theorem k326_X7_valueOf (l : Launch) (D : va_G) (zt : Nat × Nat × Nat × (Nat → Nat) × (Nat → Nat)) (q : Nat → Nat) (d : Nat → ClassId) (I : Nat → Int32) (A : Nat → Nat → Int32) (z1 : Int32) (hIv : IvX I A) : GM l D zt (tyX d) yX7_valueOf wz_k326_X7_valueOf ({ frames := 0, cells := 0, slots := 0, locals := 0 } : Room) [.ref (q 27), .int z1] (wX q d I A) (fun v _ w' => ∃ y0 : Int32, v = some (.int y0) ∧ w' = wX q d I A) 0 0 := by
  refine GM.of (cc := cX7_valueOf) (maxL := 2) (ret := (some .int)) (own := RX7) (lv := [(0, .ref (q 27)), (1, .int z1)]) (by decide) rfl rfl (Nat.le_of_ble_eq_true rfl) rfl (fun κ sz hk hR hN => ?_)
  have hin7 : ∀ w ∈ u_ws RX7 TX7 1, w ∈ wz_k326_X7_valueOf := fun w h => (List.mem_cons_of_mem _ (List.mem_append_right _ (List.mem_append_left _ h)))
  refine g_iload_n hk dX7_valueOf_0 rfl ?_
  have b10155l := Int32.le_toInt z1
  have b10155h := Int32.toInt_lt z1
  refine g_if_lt (tgt := 22) (a := z1.toInt) hk dX7_valueOf_1 (by decide) rfl (fun c10156 => ?_) (fun c10156 => ?_)
  · skip
    refine g_iconst (v := (-1)) hk dX7_valueOf_22 (by decide) ?_
    exact g_iret hk hR rfl ⟨(-1), rfl, rfl⟩ dX7_valueOf_23
  · skip
    refine g_iload_n hk dX7_valueOf_4 rfl ?_
    refine g_aload_n hk dX7_valueOf_5 rfl ?_
    refine gX_r27_0 hk hin7 (List.mem_cons_of_mem _ (List.mem_append_left _ (List.mem_of_getElem? (i := 0) rfl))) dX7_valueOf_6 ?_
    refine nX_16 hk dX7_valueOf_9 ?_
    refine g_icmp_ge (tgt := 22) (a := z1.toInt) (b := 4) hk dX7_valueOf_10 (by decide) rfl rfl (fun c10157 => ?_) (fun c10157 => ?_)
    · skip
      refine g_iconst (v := (-1)) hk dX7_valueOf_22 (by decide) ?_
      exact g_iret hk hR rfl ⟨(-1), rfl, rfl⟩ dX7_valueOf_23
    · skip
      refine g_aload_n hk dX7_valueOf_13 rfl ?_
      refine gX_r27_0 hk hin7 (List.mem_cons_of_mem _ (List.mem_append_left _ (List.mem_of_getElem? (i := 0) rfl))) dX7_valueOf_14 ?_
      refine g_iload_n hk dX7_valueOf_17 rfl ?_
      refine lX_16 (v := (A 16 z1.toNatClampNeg)) hk (vp_in_iff.mpr ⟨by omega, by omega⟩) rfl dX7_valueOf_18 ?_
      refine g_goto (tgt := 23) hk dX7_valueOf_19 (by decide) ?_
      have b10158l := Int32.le_toInt (A 16 z1.toNatClampNeg)
      have b10158h := Int32.toInt_lt (A 16 z1.toNatClampNeg)
      exact g_iret hk hR rfl ⟨(A 16 z1.toNatClampNeg), rfl, rfl⟩ dX7_valueOf_23
def wo_k325_X7_takeFrom : List Cond := [Cond.fieldLink RX7 20 "WarpDesk$Settings" "values" "[I", Cond.methodLink RX7 33 yX7_valueOf, Cond.instanceMethod yX7_valueOf, Cond.selects RX7 yX7_valueOf yX7_valueOf, Cond.initialized RX7]
def wz_k325_X7_takeFrom : List Cond := .code yX7_takeFrom cX7_takeFrom 3 none :: (wo_k325_X7_takeFrom ++ (wsX70 ++ (wz_k326_X7_valueOf ++ ([] : List Cond))))
theorem zg_k325_X7_takeFrom : ∀ w ∈ wz_k325_X7_takeFrom, goodWord w = true := zg_cons rfl (zg_app (by decide +kernel) (zg_app zgU_wsX70 (zg_app zg_k326_X7_valueOf zg_nil)))
theorem zi_k325_X7_takeFrom : ∀ w ∈ wz_k325_X7_takeFrom, w ∈ lw_tbl := zi_cons zw_784 (zi_app (zi_cons zw_190 (zi_cons zw_785 (zi_cons zw_786 (zi_cons zw_787 (zi_cons zw_107 zi_nil))))) (zi_app inX7 (zi_app zi_k326_X7_valueOf zi_nil)))
set_option maxHeartbeats 4000000 in
set_option maxRecDepth 100000 in
theorem k325_X7_takeFrom (l : Launch) (D : va_G) (zt : Nat × Nat × Nat × (Nat → Nat) × (Nat → Nat)) (q : Nat → Nat) (d : Nat → ClassId) (I : Nat → Int32) (A : Nat → Nat → Int32) (hIv : IvX I A) : GM l D zt (tyX d) yX7_takeFrom wz_k325_X7_takeFrom ({ frames := 1, cells := 0, slots := 0, locals := 21 } : Room) [.ref (q 18), .ref (q 27)] (wX q d I A) (fun v _ w' => ∃ (I' : Nat → Int32) (A' : Nat → Nat → Int32), Md [] I I' ∧ Md [10] A A' ∧ IvX I' A' ∧ v = none ∧ w' = wX q d I' A') 0 0 := by
  refine GM.of (cc := cX7_takeFrom) (maxL := 3) (ret := none) (own := RX7) (lv := [(0, .ref (q 18)), (1, .ref (q 27))]) (by decide) rfl rfl (Nat.le_of_ble_eq_true rfl) rfl (fun κ sz hk hR hN => ?_)
  have hin7 : ∀ w ∈ u_ws RX7 TX7 1, w ∈ wz_k325_X7_takeFrom := fun w h => (List.mem_cons_of_mem _ (List.mem_append_right _ (List.mem_append_left _ h)))
  refine g_iconst (v := 0) hk dX7_takeFrom_0 (by decide) ?_
  refine g_istore_n (lv' := [(2, .int 0), (0, .ref (q 18)), (1, .ref (q 27))]) hk dX7_takeFrom_1 (by decide) rfl ?_
  have lp10172 : ∀ (n10173 : Nat) (x10151 : Int32) (I10154 : Nat → Int32) (A10154 : Nat → Nat → Int32), (Md [] I I10154) → (Md [10] A A10154) → (IvX I10154 A10154) → (0 ≤ x10151.toInt) → (x10151.toInt ≤ 4) → (5 - x10151.toInt < (n10173 : Int)) → (0 < n10173) → GW κ 3 0 0 (wX q d I10154 A10154) 2 [(2, .int x10151), (0, .ref (q 18)), (1, .ref (q 27))] [] := by
    intro n10173
    induction n10173 with
    | zero =>
      intro x10151 I10154 A10154 hI10154 hA10154 hV10154 h10170 h10171 m10174 m10174z
      exact absurd m10174z (Nat.lt_irrefl 0)
    | succ n10173 ih10175 =>
      intro x10151 I10154 A10154 hI10154 hA10154 hV10154 h10170 h10171 m10174 m10174z
      refine g_iload_n hk dX7_takeFrom_2 rfl ?_
      refine g_aload_n hk dX7_takeFrom_3 rfl ?_
      refine gX_r18_0 hk hin7 (List.mem_cons_of_mem _ (List.mem_append_left _ (List.mem_of_getElem? (i := 0) rfl))) dX7_takeFrom_4 ?_
      refine nX_10 hk dX7_takeFrom_7 ?_
      refine g_icmp_ge (tgt := 28) (a := x10151.toInt) (b := 4) hk dX7_takeFrom_8 (by decide) rfl rfl (fun c10176 => ?_) (fun c10176 => ?_)
      · skip
        exact g_vret hk hR ⟨I10154, A10154, (show Md [] I I10154 from (Md.tr Md.rf hI10154 rfl)), (show Md [10] A A10154 from (Md.tr Md.rf hA10154 rfl)), hV10154, rfl, rfl⟩ dX7_takeFrom_28
      · skip
        refine g_aload_n hk dX7_takeFrom_11 rfl ?_
        refine gX_r18_0 hk hin7 (List.mem_cons_of_mem _ (List.mem_append_left _ (List.mem_of_getElem? (i := 0) rfl))) dX7_takeFrom_12 ?_
        refine g_iload_n hk dX7_takeFrom_15 rfl ?_
        refine g_aload_n hk dX7_takeFrom_16 rfl ?_
        refine g_iload_n hk dX7_takeFrom_17 rfl ?_
        refine g_callV (n := 1) hk (k326_X7_valueOf l D zt q d I10154 A10154 x10151 hV10154) (SP.same _) (fun _ h => h) (gi_V (List.mem_cons_of_mem _ (List.mem_append_left _ (List.mem_of_getElem? (i := 1) rfl))) (List.mem_cons_of_mem _ (List.mem_append_left _ (List.mem_of_getElem? (i := 2) rfl))) (List.mem_cons_of_mem _ (List.mem_append_left _ (List.mem_of_getElem? (i := 3) rfl))) (List.mem_cons_of_mem _ (List.mem_append_left _ (List.mem_of_getElem? (i := 4) rfl))) (gi_sub (fun w h => (List.mem_cons_of_mem _ (List.mem_append_right _ (List.mem_append_right _ (List.mem_append_left _ h))))) zg_k326_X7_valueOf)) rfl rfl rfl (by decide +kernel) ⟨Nat.le_of_ble_eq_true rfl, Nat.le_of_ble_eq_true rfl⟩ 27 rfl rfl rfl rfl (Nat.le_of_ble_eq_true rfl) ⟨Nat.le_of_ble_eq_true rfl, Nat.le_of_ble_eq_true rfl⟩ dX7_takeFrom_18 (fun v ty' w' hp hk' => ?_)
        obtain ⟨y10177, rfl, rfl⟩ := hp
        show GW κ 3 0 0 (wX q d I10154 A10154) 21 [(2, .int x10151), (0, .ref (q 18)), (1, .ref (q 27))] [.int y10177, .int x10151, .ref (q 19)]
        refine sX_10 (j := x10151.toNatClampNeg) hk (vp_in_iff.mpr ⟨by omega, by omega⟩) rfl dX7_takeFrom_21 ?_
        obtain ⟨y10178, ey10178⟩ : ∃ y : Int32, y = x10151 + Int32.ofInt 1 := ⟨_, rfl⟩
        have hy10178 : y10178.toInt = x10151.toInt + 1 := i32_add ey10178 rfl (by decide) (by omega) (by omega)
        refine g_iinc (v := y10178) (lv' := [(2, .int y10178), (0, .ref (q 18)), (1, .ref (q 27))]) hk 0 dX7_takeFrom_22 rfl ey10178.symm (by decide) rfl ?_
        refine g_goto (tgt := 2) hk dX7_takeFrom_25 (by decide) ?_
        exact g_lv (List.forall_mem_cons.mpr ⟨List.mem_of_getElem? (i := 0) rfl, (List.forall_mem_cons.mpr ⟨List.mem_of_getElem? (i := 1) rfl, (List.forall_mem_cons.mpr ⟨List.mem_of_getElem? (i := 2) rfl, (fun _ h => absurd h List.not_mem_nil)⟩)⟩)⟩) (ih10175 y10178 I10154 (up3 A10154 10 (x10151.toNatClampNeg) y10177) (show Md [] I I10154 from Md.tr hI10154 (show Md [] I10154 I10154 from Md.rf) rfl) (show Md [10] A (up3 A10154 10 (x10151.toNatClampNeg) y10177) from Md.tr hA10154 (show Md [10] A10154 (up3 A10154 10 (x10151.toNatClampNeg) y10177) from (Md.up3 Md.rf rfl)) rfl) ⟨(IvX_f0 (I := I10154) (A := A10154) hV10154), (IvX_f18 (I := I10154) (A := A10154) hV10154), (IvX_f30 (I := I10154) (A := A10154) hV10154), (IvX_f31 (I := I10154) (A := A10154) hV10154), (IvX_a4 (I := I10154) (A := A10154) hV10154), (IvX_a9 (I := I10154) (A := A10154) hV10154), trivial⟩ (by omega) (by omega) (by omega) (by omega))
  have k10180 : (0 : Int32).toInt = 0 := rfl
  obtain ⟨n10179, n10179a, n10179b⟩ : ∃ n : Nat, 5 - 0 < (n : Int) ∧ 0 < n := ⟨((5 - 0 : Int)).toNat + 1, by omega, by omega⟩
  exact lp10172 n10179 0 I A Md.rf Md.rf hIv (by omega) (by omega) n10179a n10179b
def wo_k322_X11_goOnFrom : List Cond := [Cond.fieldLink RX11 28 "WarpDesk" "series" "LWarpDesk$Series;", Cond.methodLink RX11 369 yX6_takeFrom, Cond.instanceMethod yX6_takeFrom, Cond.selects RX6 yX6_takeFrom yX6_takeFrom, Cond.initialized RX6, Cond.fieldLink RX11 42 "WarpDesk" "settings" "LWarpDesk$Settings;", Cond.fieldLink RX11 365 "WarpDesk$Stand" "settings" "LWarpDesk$Settings;", Cond.methodLink RX11 366 yX7_takeFrom, Cond.instanceMethod yX7_takeFrom, Cond.selects RX7 yX7_takeFrom yX7_takeFrom, Cond.initialized RX7, Cond.fieldLink RX11 49 "WarpDesk" "past" "LWarpDesk$Past;", Cond.methodLink RX11 371 yX3_forget, Cond.instanceMethod yX3_forget, Cond.selects RX3 yX3_forget yX3_forget, Cond.initialized RX3]
def wz_k322_X11_goOnFrom : List Cond := .code yX11_goOnFrom cX11_goOnFrom 2 none :: (wo_k322_X11_goOnFrom ++ (wsX80 ++ (wsX110 ++ (wz_k323_X6_takeFrom ++ (wz_k325_X7_takeFrom ++ (wz_k175_X3_forget ++ ([] : List Cond)))))))
theorem zg_k322_X11_goOnFrom : ∀ w ∈ wz_k322_X11_goOnFrom, goodWord w = true := zg_cons rfl (zg_app (by decide +kernel) (zg_app zgU_wsX80 (zg_app zgU_wsX110 (zg_app zg_k323_X6_takeFrom (zg_app zg_k325_X7_takeFrom (zg_app zg_k175_X3_forget zg_nil))))))
theorem zi_k322_X11_goOnFrom : ∀ w ∈ wz_k322_X11_goOnFrom, w ∈ lw_tbl := zi_cons zw_768 (zi_app (zi_cons zw_489 (zi_cons zw_769 (zi_cons zw_770 (zi_cons zw_771 (zi_cons zw_109 (zi_cons zw_491 (zi_cons zw_200 (zi_cons zw_781 (zi_cons zw_782 (zi_cons zw_783 (zi_cons zw_107 (zi_cons zw_492 (zi_cons zw_789 (zi_cons zw_790 (zi_cons zw_791 (zi_cons zw_110 zi_nil)))))))))))))))) (zi_app inX8 (zi_app inX11 (zi_app zi_k323_X6_takeFrom (zi_app zi_k325_X7_takeFrom (zi_app zi_k175_X3_forget zi_nil))))))
set_option maxHeartbeats 4000000 in
set_option maxRecDepth 100000 in
theorem k322_X11_goOnFrom (l : Launch) (D : va_G) (zt : Nat × Nat × Nat × (Nat → Nat) × (Nat → Nat)) (q : Nat → Nat) (d : Nat → ClassId) (I : Nat → Int32) (A : Nat → Nat → Int32) (hIv : IvX I A) : GM l D zt (tyX d) yX11_goOnFrom wz_k322_X11_goOnFrom ({ frames := 2, cells := 0, slots := 0, locals := 43 } : Room) [.ref (q 0), .ref (q 25)] (wX q d I A) (fun v _ w' => ∃ (I' : Nat → Int32) (A' : Nat → Nat → Int32), Md [17, 18, 21] I I' ∧ Md [7, 10] A A' ∧ IvX I' A' ∧ v = none ∧ w' = wX q d I' A') 0 0 := by
  refine GM.of (cc := cX11_goOnFrom) (maxL := 2) (ret := none) (own := RX11) (lv := [(0, .ref (q 0)), (1, .ref (q 25))]) (by decide) rfl rfl (Nat.le_of_ble_eq_true rfl) rfl (fun κ sz hk hR hN => ?_)
  have hin8 : ∀ w ∈ u_ws RX8 TX8 4, w ∈ wz_k322_X11_goOnFrom := fun w h => (List.mem_cons_of_mem _ (List.mem_append_right _ (List.mem_append_left _ h)))
  have hin11 : ∀ w ∈ u_ws RX11 TX11 10, w ∈ wz_k322_X11_goOnFrom := fun w h => (List.mem_cons_of_mem _ (List.mem_append_right _ (List.mem_append_right _ (List.mem_append_left _ h))))
  refine g_aload_n hk dX11_goOnFrom_0 rfl ?_
  refine gX_r0_2 hk hin11 (List.mem_cons_of_mem _ (List.mem_append_left _ (List.mem_of_getElem? (i := 0) rfl))) dX11_goOnFrom_1 ?_
  refine g_aload_n hk dX11_goOnFrom_4 rfl ?_
  refine g_callV (n := 1) hk (k323_X6_takeFrom l D zt q d I A  hIv) (SP.same _) (fun _ h => h) (gi_V (List.mem_cons_of_mem _ (List.mem_append_left _ (List.mem_of_getElem? (i := 1) rfl))) (List.mem_cons_of_mem _ (List.mem_append_left _ (List.mem_of_getElem? (i := 2) rfl))) (List.mem_cons_of_mem _ (List.mem_append_left _ (List.mem_of_getElem? (i := 3) rfl))) (List.mem_cons_of_mem _ (List.mem_append_left _ (List.mem_of_getElem? (i := 4) rfl))) (gi_sub (fun w h => (List.mem_cons_of_mem _ (List.mem_append_right _ (List.mem_append_right _ (List.mem_append_right _ (List.mem_append_left _ h)))))) zg_k323_X6_takeFrom)) rfl rfl rfl (by decide +kernel) ⟨Nat.le_of_ble_eq_true rfl, Nat.le_of_ble_eq_true rfl⟩ 13 rfl rfl rfl rfl (Nat.le_of_ble_eq_true rfl) ⟨Nat.le_of_ble_eq_true rfl, Nat.le_of_ble_eq_true rfl⟩ dX11_goOnFrom_5 (fun v ty' w' hp hk' => ?_)
  obtain ⟨I10150, A10150, hI10150, hA10150, hV10150, rfl, rfl⟩ := hp
  show GW κ 2 0 0 (wX q d I10150 A10150) 8 [(0, .ref (q 0)), (1, .ref (q 25))] []
  refine g_aload_n hk dX11_goOnFrom_8 rfl ?_
  refine gX_r0_4 hk hin11 (List.mem_cons_of_mem _ (List.mem_append_left _ (List.mem_of_getElem? (i := 5) rfl))) dX11_goOnFrom_9 ?_
  refine g_aload_n hk dX11_goOnFrom_12 rfl ?_
  refine gX_r25_2 hk hin8 (List.mem_cons_of_mem _ (List.mem_append_left _ (List.mem_of_getElem? (i := 6) rfl))) dX11_goOnFrom_13 ?_
  refine g_callV (n := 1) hk (k325_X7_takeFrom l D zt q d I10150 A10150  hV10150) (SP.same _) (fun _ h => h) (gi_V (List.mem_cons_of_mem _ (List.mem_append_left _ (List.mem_of_getElem? (i := 7) rfl))) (List.mem_cons_of_mem _ (List.mem_append_left _ (List.mem_of_getElem? (i := 8) rfl))) (List.mem_cons_of_mem _ (List.mem_append_left _ (List.mem_of_getElem? (i := 9) rfl))) (List.mem_cons_of_mem _ (List.mem_append_left _ (List.mem_of_getElem? (i := 10) rfl))) (gi_sub (fun w h => (List.mem_cons_of_mem _ (List.mem_append_right _ (List.mem_append_right _ (List.mem_append_right _ (List.mem_append_right _ (List.mem_append_left _ h))))))) zg_k325_X7_takeFrom)) rfl rfl rfl (by decide +kernel) ⟨Nat.le_of_ble_eq_true rfl, Nat.le_of_ble_eq_true rfl⟩ 18 rfl rfl rfl rfl (Nat.le_of_ble_eq_true rfl) ⟨Nat.le_of_ble_eq_true rfl, Nat.le_of_ble_eq_true rfl⟩ dX11_goOnFrom_16 (fun v ty' w' hp hk' => ?_)
  obtain ⟨I10182, A10182, hI10182, hA10182, hV10182, rfl, rfl⟩ := hp
  show GW κ 2 0 0 (wX q d I10182 A10182) 19 [(0, .ref (q 0)), (1, .ref (q 25))] []
  refine g_aload_n hk dX11_goOnFrom_19 rfl ?_
  refine gX_r0_5 hk hin11 (List.mem_cons_of_mem _ (List.mem_append_left _ (List.mem_of_getElem? (i := 11) rfl))) dX11_goOnFrom_20 ?_
  refine g_callV (n := 0) hk (k175_X3_forget l D zt q d I10182 A10182  hV10182) (SP.same _) (fun _ h => h) (gi_V (List.mem_cons_of_mem _ (List.mem_append_left _ (List.mem_of_getElem? (i := 12) rfl))) (List.mem_cons_of_mem _ (List.mem_append_left _ (List.mem_of_getElem? (i := 13) rfl))) (List.mem_cons_of_mem _ (List.mem_append_left _ (List.mem_of_getElem? (i := 14) rfl))) (List.mem_cons_of_mem _ (List.mem_append_left _ (List.mem_of_getElem? (i := 15) rfl))) (gi_sub (fun w h => (List.mem_cons_of_mem _ (List.mem_append_right _ (List.mem_append_right _ (List.mem_append_right _ (List.mem_append_right _ (List.mem_append_right _ (List.mem_append_left _ h)))))))) zg_k175_X3_forget)) rfl rfl rfl (by decide +kernel) ⟨Nat.le_of_ble_eq_true rfl, Nat.le_of_ble_eq_true rfl⟩ 20 rfl rfl rfl rfl (Nat.le_of_ble_eq_true rfl) ⟨Nat.le_of_ble_eq_true rfl, Nat.le_of_ble_eq_true rfl⟩ dX11_goOnFrom_23 (fun v ty' w' hp hk' => ?_)
  obtain ⟨I10184, A10184, hI10184, hA10184, hV10184, rfl, rfl⟩ := hp
  show GW κ 2 0 0 (wX q d I10184 A10184) 26 [(0, .ref (q 0)), (1, .ref (q 25))] []
  exact g_vret hk hR ⟨I10184, A10184, (show Md [17, 18, 21] I I10184 from (Md.tr (Md.tr (Md.tr Md.rf hI10150 rfl) hI10182 rfl) hI10184 rfl)), (show Md [7, 10] A A10184 from (Md.tr (Md.tr (Md.tr Md.rf hA10150 rfl) hA10182 rfl) hA10184 rfl)), hV10184, rfl, rfl⟩ dX11_goOnFrom_26
def wo_k329_X8_valueAt : List Cond := [Cond.fieldLink RX8 22 "WarpDesk$Stand" "size" "I", Cond.fieldLink RX8 9 "WarpDesk$Stand" "places" "[I"]
def wz_k329_X8_valueAt : List Cond := .code yX8_valueAt cX8_valueAt 2 (some .int) :: (wo_k329_X8_valueAt ++ (wsX80 ++ ([] : List Cond)))
theorem zg_k329_X8_valueAt : ∀ w ∈ wz_k329_X8_valueAt, goodWord w = true := zg_cons rfl (zg_app (by decide +kernel) (zg_app zgU_wsX80 zg_nil))
theorem zi_k329_X8_valueAt : ∀ w ∈ wz_k329_X8_valueAt, w ∈ lw_tbl := zi_cons zw_776 (zi_app (zi_cons zw_195 (zi_cons zw_194 zi_nil)) (zi_app inX8 zi_nil))
set_option maxHeartbeats 4000000 in
set_option maxRecDepth 100000 in
theorem k329_X8_valueAt (l : Launch) (D : va_G) (zt : Nat × Nat × Nat × (Nat → Nat) × (Nat → Nat)) (q : Nat → Nat) (d : Nat → ClassId) (I : Nat → Int32) (A : Nat → Nat → Int32) (z1 : Int32) (hIv : IvX I A) : GM l D zt (tyX d) yX8_valueAt wz_k329_X8_valueAt ({ frames := 0, cells := 0, slots := 0, locals := 0 } : Room) [.ref (q 29), .int z1] (wX q d I A) (fun v _ w' => ∃ y0 : Int32, v = some (.int y0) ∧ w' = wX q d I A) 0 0 := by
  refine GM.of (cc := cX8_valueAt) (maxL := 2) (ret := (some .int)) (own := RX8) (lv := [(0, .ref (q 29)), (1, .int z1)]) (by decide) rfl rfl (Nat.le_of_ble_eq_true rfl) rfl (fun κ sz hk hR hN => ?_)
  have hin8 : ∀ w ∈ u_ws RX8 TX8 4, w ∈ wz_k329_X8_valueAt := fun w h => (List.mem_cons_of_mem _ (List.mem_append_right _ (List.mem_append_left _ h)))
  refine g_iload_n hk dX8_valueAt_0 rfl ?_
  have b10196l := Int32.le_toInt z1
  have b10196h := Int32.toInt_lt z1
  refine g_if_lt (tgt := 30) (a := z1.toInt) hk dX8_valueAt_1 (by decide) rfl (fun c10197 => ?_) (fun c10197 => ?_)
  · skip
    refine g_sipush (v := (-1000)) hk dX8_valueAt_30 (by decide) ?_
    exact g_iret hk hR rfl ⟨(-1000), rfl, rfl⟩ dX8_valueAt_33
  · skip
    refine g_iload_n hk dX8_valueAt_4 rfl ?_
    refine g_aload_n hk dX8_valueAt_5 rfl ?_
    refine gX_i24 (v := (I 24)) hk hin8 (List.mem_cons_of_mem _ (List.mem_append_left _ (List.mem_of_getElem? (i := 0) rfl))) dX8_valueAt_6 rfl ?_
    have b10198l := Int32.le_toInt (I 24)
    have b10198h := Int32.toInt_lt (I 24)
    refine g_icmp_ge (tgt := 30) (a := z1.toInt) (b := (I 24).toInt) hk dX8_valueAt_9 (by decide) rfl rfl (fun c10199 => ?_) (fun c10199 => ?_)
    · skip
      refine g_sipush (v := (-1000)) hk dX8_valueAt_30 (by decide) ?_
      exact g_iret hk hR rfl ⟨(-1000), rfl, rfl⟩ dX8_valueAt_33
    · skip
      refine g_iload_n hk dX8_valueAt_12 rfl ?_
      refine g_aload_n hk dX8_valueAt_13 rfl ?_
      refine gX_r29_0 hk hin8 (List.mem_cons_of_mem _ (List.mem_append_left _ (List.mem_of_getElem? (i := 1) rfl))) dX8_valueAt_14 ?_
      refine nX_17 hk dX8_valueAt_17 ?_
      refine g_icmp_ge (tgt := 30) (a := z1.toInt) (b := 160) hk dX8_valueAt_18 (by decide) rfl rfl (fun c10200 => ?_) (fun c10200 => ?_)
      · skip
        refine g_sipush (v := (-1000)) hk dX8_valueAt_30 (by decide) ?_
        exact g_iret hk hR rfl ⟨(-1000), rfl, rfl⟩ dX8_valueAt_33
      · skip
        refine g_aload_n hk dX8_valueAt_21 rfl ?_
        refine gX_r29_0 hk hin8 (List.mem_cons_of_mem _ (List.mem_append_left _ (List.mem_of_getElem? (i := 1) rfl))) dX8_valueAt_22 ?_
        refine g_iload_n hk dX8_valueAt_25 rfl ?_
        refine lX_17 (v := (A 17 z1.toNatClampNeg)) hk (vp_in_iff.mpr ⟨by omega, by omega⟩) rfl dX8_valueAt_26 ?_
        refine g_goto (tgt := 33) hk dX8_valueAt_27 (by decide) ?_
        have b10201l := Int32.le_toInt (A 17 z1.toNatClampNeg)
        have b10201h := Int32.toInt_lt (A 17 z1.toNatClampNeg)
        exact g_iret hk hR rfl ⟨(A 17 z1.toNatClampNeg), rfl, rfl⟩ dX8_valueAt_33
def wo_k328_X6_takeFrom : List Cond := [Cond.fieldLink RX6 15 "WarpDesk$Series" "first" "I", Cond.fieldLink RX6 19 "WarpDesk$Series" "size" "I", Cond.fieldLink RX6 22 "WarpDesk$Stand" "size" "I", Cond.methodLink RX6 25 yX8_valueAt, Cond.instanceMethod yX8_valueAt, Cond.selects RX8 yX8_valueAt yX8_valueAt, Cond.initialized RX8, Cond.methodLink RX6 29 yX6_append, Cond.instanceMethod yX6_append, Cond.selects RX6 yX6_append yX6_append, Cond.initialized RX6]
def wz_k328_X6_takeFrom : List Cond := .code yX6_takeFrom cX6_takeFrom 3 none :: (wo_k328_X6_takeFrom ++ (wsX60 ++ (wsX80 ++ (wz_k329_X8_valueAt ++ (wz_k172_X6_append ++ ([] : List Cond))))))
theorem zg_k328_X6_takeFrom : ∀ w ∈ wz_k328_X6_takeFrom, goodWord w = true := zg_cons rfl (zg_app (by decide +kernel) (zg_app zgU_wsX60 (zg_app zgU_wsX80 (zg_app zg_k329_X8_valueAt (zg_app zg_k172_X6_append zg_nil)))))
theorem zi_k328_X6_takeFrom : ∀ w ∈ wz_k328_X6_takeFrom, w ∈ lw_tbl := zi_cons zw_772 (zi_app (zi_cons zw_281 (zi_cons zw_282 (zi_cons zw_196 (zi_cons zw_773 (zi_cons zw_774 (zi_cons zw_775 (zi_cons zw_106 (zi_cons zw_777 (zi_cons zw_778 (zi_cons zw_779 (zi_cons zw_109 zi_nil))))))))))) (zi_app inX6 (zi_app inX8 (zi_app zi_k329_X8_valueAt (zi_app zi_k172_X6_append zi_nil)))))
set_option maxHeartbeats 4000000 in
set_option maxRecDepth 100000 in
theorem k328_X6_takeFrom (l : Launch) (D : va_G) (zt : Nat × Nat × Nat × (Nat → Nat) × (Nat → Nat)) (q : Nat → Nat) (d : Nat → ClassId) (I : Nat → Int32) (A : Nat → Nat → Int32) (hIv : IvX I A) : GM l D zt (tyX d) yX6_takeFrom wz_k328_X6_takeFrom ({ frames := 1, cells := 0, slots := 0, locals := 21 } : Room) [.ref (q 13), .ref (q 29)] (wX q d I A) (fun v _ w' => ∃ (I' : Nat → Int32) (A' : Nat → Nat → Int32), Md [17, 18] I I' ∧ Md [7] A A' ∧ IvX I' A' ∧ v = none ∧ w' = wX q d I' A') 0 0 := by
  refine GM.of (cc := cX6_takeFrom) (maxL := 3) (ret := none) (own := RX6) (lv := [(0, .ref (q 13)), (1, .ref (q 29))]) (by decide) rfl rfl (Nat.le_of_ble_eq_true rfl) rfl (fun κ sz hk hR hN => ?_)
  have hin6 : ∀ w ∈ u_ws RX6 TX6 3, w ∈ wz_k328_X6_takeFrom := fun w h => (List.mem_cons_of_mem _ (List.mem_append_right _ (List.mem_append_left _ h)))
  have hin8 : ∀ w ∈ u_ws RX8 TX8 4, w ∈ wz_k328_X6_takeFrom := fun w h => (List.mem_cons_of_mem _ (List.mem_append_right _ (List.mem_append_right _ (List.mem_append_left _ h))))
  refine g_aload_n hk dX6_takeFrom_0 rfl ?_
  refine g_iconst (v := 0) hk dX6_takeFrom_1 (by decide) ?_
  refine pX_i17 hk hin6 (List.mem_cons_of_mem _ (List.mem_append_left _ (List.mem_of_getElem? (i := 0) rfl))) dX6_takeFrom_2 ?_
  refine g_aload_n hk dX6_takeFrom_5 rfl ?_
  refine g_iconst (v := 0) hk dX6_takeFrom_6 (by decide) ?_
  refine pX_i18 hk hin6 (List.mem_cons_of_mem _ (List.mem_append_left _ (List.mem_of_getElem? (i := 1) rfl))) dX6_takeFrom_7 ?_
  refine g_iconst (v := 0) hk dX6_takeFrom_10 (by decide) ?_
  refine g_istore_n (lv' := [(2, .int 0), (0, .ref (q 13)), (1, .ref (q 29))]) hk dX6_takeFrom_11 (by decide) rfl ?_
  have lp10226 : ∀ (n10227 : Nat) (x10190 : Int32) (I10193 : Nat → Int32) (A10193 : Nat → Nat → Int32), (Md [17, 18] (upd (upd I 17 0) 18 0) I10193) → (Md [7] A A10193) → (IvX I10193 A10193) → (0 ≤ x10190.toInt) → ((I 24).toInt + 1 - x10190.toInt < (n10227 : Int)) → (0 < n10227) → GW κ 3 0 0 (wX q d I10193 A10193) 12 [(2, .int x10190), (0, .ref (q 13)), (1, .ref (q 29))] [] := by
    intro n10227
    induction n10227 with
    | zero =>
      intro x10190 I10193 A10193 hI10193 hA10193 hV10193 h10225 m10228 m10228z
      exact absurd m10228z (Nat.lt_irrefl 0)
    | succ n10227 ih10229 =>
      intro x10190 I10193 A10193 hI10193 hA10193 hV10193 h10225 m10228 m10228z
      refine g_iload_n hk dX6_takeFrom_12 rfl ?_
      refine g_aload_n hk dX6_takeFrom_13 rfl ?_
      refine gX_i24 (v := (I 24)) hk hin8 (List.mem_cons_of_mem _ (List.mem_append_left _ (List.mem_of_getElem? (i := 2) rfl))) dX6_takeFrom_14 (hI10193 24 rfl) ?_
      have b10230l := Int32.le_toInt x10190
      have b10230h := Int32.toInt_lt x10190
      have b10231l := Int32.le_toInt (I 24)
      have b10231h := Int32.toInt_lt (I 24)
      refine g_icmp_ge (tgt := 36) (a := x10190.toInt) (b := (I 24).toInt) hk dX6_takeFrom_17 (by decide) rfl rfl (fun c10232 => ?_) (fun c10232 => ?_)
      · skip
        exact g_vret hk hR ⟨I10193, A10193, (show Md [17, 18] I I10193 from (Md.tr (Md.up (Md.up Md.rf rfl) rfl) hI10193 rfl)), (show Md [7] A A10193 from (Md.tr Md.rf hA10193 rfl)), hV10193, rfl, rfl⟩ dX6_takeFrom_36
      · skip
        refine g_aload_n hk dX6_takeFrom_20 rfl ?_
        refine g_aload_n hk dX6_takeFrom_21 rfl ?_
        refine g_iload_n hk dX6_takeFrom_22 rfl ?_
        refine g_callV (n := 1) hk (k329_X8_valueAt l D zt q d I10193 A10193 x10190 hV10193) (SP.same _) (fun _ h => h) (gi_V (List.mem_cons_of_mem _ (List.mem_append_left _ (List.mem_of_getElem? (i := 3) rfl))) (List.mem_cons_of_mem _ (List.mem_append_left _ (List.mem_of_getElem? (i := 4) rfl))) (List.mem_cons_of_mem _ (List.mem_append_left _ (List.mem_of_getElem? (i := 5) rfl))) (List.mem_cons_of_mem _ (List.mem_append_left _ (List.mem_of_getElem? (i := 6) rfl))) (gi_sub (fun w h => (List.mem_cons_of_mem _ (List.mem_append_right _ (List.mem_append_right _ (List.mem_append_right _ (List.mem_append_left _ h)))))) zg_k329_X8_valueAt)) rfl rfl rfl (by decide +kernel) ⟨Nat.le_of_ble_eq_true rfl, Nat.le_of_ble_eq_true rfl⟩ 29 rfl rfl rfl rfl (Nat.le_of_ble_eq_true rfl) ⟨Nat.le_of_ble_eq_true rfl, Nat.le_of_ble_eq_true rfl⟩ dX6_takeFrom_23 (fun v ty' w' hp hk' => ?_)
        obtain ⟨y10233, rfl, rfl⟩ := hp
        show GW κ 3 0 0 (wX q d I10193 A10193) 26 [(2, .int x10190), (0, .ref (q 13)), (1, .ref (q 29))] [.int y10233, .ref (q 13)]
        refine g_callV (n := 1) hk (k172_X6_append l D zt q d I10193 A10193 y10233 hV10193) (SP.same _) (fun _ h => h) (gi_V (List.mem_cons_of_mem _ (List.mem_append_left _ (List.mem_of_getElem? (i := 7) rfl))) (List.mem_cons_of_mem _ (List.mem_append_left _ (List.mem_of_getElem? (i := 8) rfl))) (List.mem_cons_of_mem _ (List.mem_append_left _ (List.mem_of_getElem? (i := 9) rfl))) (List.mem_cons_of_mem _ (List.mem_append_left _ (List.mem_of_getElem? (i := 10) rfl))) (gi_sub (fun w h => (List.mem_cons_of_mem _ (List.mem_append_right _ (List.mem_append_right _ (List.mem_append_right _ (List.mem_append_right _ (List.mem_append_left _ h))))))) zg_k172_X6_append)) rfl rfl rfl (by decide +kernel) ⟨Nat.le_of_ble_eq_true rfl, Nat.le_of_ble_eq_true rfl⟩ 13 rfl rfl rfl rfl (Nat.le_of_ble_eq_true rfl) ⟨Nat.le_of_ble_eq_true rfl, Nat.le_of_ble_eq_true rfl⟩ dX6_takeFrom_26 (fun v ty' w' hp hk' => ?_)
        obtain ⟨I10237, A10237, hI10237, hA10237, hV10237, y10234, c10235, c10236, rfl, rfl⟩ := hp
        show GW κ 3 0 0 (wX q d I10237 A10237) 29 [(2, .int x10190), (0, .ref (q 13)), (1, .ref (q 29))] [.int y10234]
        refine g_pop hk dX6_takeFrom_29 rfl ?_
        obtain ⟨y10238, ey10238⟩ : ∃ y : Int32, y = x10190 + Int32.ofInt 1 := ⟨_, rfl⟩
        have hy10238 : y10238.toInt = x10190.toInt + 1 := i32_add ey10238 rfl (by decide) (by omega) (by omega)
        refine g_iinc (v := y10238) (lv' := [(2, .int y10238), (0, .ref (q 13)), (1, .ref (q 29))]) hk 0 dX6_takeFrom_30 rfl ey10238.symm (by decide) rfl ?_
        refine g_goto (tgt := 12) hk dX6_takeFrom_33 (by decide) ?_
        exact g_lv (List.forall_mem_cons.mpr ⟨List.mem_of_getElem? (i := 0) rfl, (List.forall_mem_cons.mpr ⟨List.mem_of_getElem? (i := 1) rfl, (List.forall_mem_cons.mpr ⟨List.mem_of_getElem? (i := 2) rfl, (fun _ h => absurd h List.not_mem_nil)⟩)⟩)⟩) (ih10229 y10238 I10237 A10237 (show Md [17, 18] (upd (upd I 17 0) 18 0) I10237 from Md.tr hI10193 (show Md [17, 18] I10193 I10237 from (Md.tr Md.rf hI10237 rfl)) rfl) (show Md [7] A A10237 from Md.tr hA10193 (show Md [7] A10193 A10237 from (Md.tr Md.rf hA10237 rfl)) rfl) hV10237 (by omega) (by omega) (by omega))
  have k10240 : (0 : Int32).toInt = 0 := rfl
  obtain ⟨n10239, n10239a, n10239b⟩ : ∃ n : Nat, (I 24).toInt + 1 - 0 < (n : Int) ∧ 0 < n := ⟨(((I 24).toInt + 1 - 0 : Int)).toNat + 1, by omega, by omega⟩
  exact lp10226 n10239 0 (upd (upd I 17 0) 18 0) A Md.rf Md.rf ⟨(IvX_f0 (I := I) (A := A) hIv), (show 0 ≤ (0 : Int32).toInt ∧ (0 : Int32).toInt ≤ 160 from ⟨by decide, by decide⟩), (IvX_f30 (I := I) (A := A) hIv), (IvX_f31 (I := I) (A := A) hIv), (IvX_a4 (I := I) (A := A) hIv), (IvX_a9 (I := I) (A := A) hIv), trivial⟩ (by omega) n10239a n10239b
def wo_k331_X7_valueOf : List Cond := [Cond.fieldLink RX7 20 "WarpDesk$Settings" "values" "[I"]
def wz_k331_X7_valueOf : List Cond := .code yX7_valueOf cX7_valueOf 2 (some .int) :: (wo_k331_X7_valueOf ++ (wsX70 ++ ([] : List Cond)))
theorem zg_k331_X7_valueOf : ∀ w ∈ wz_k331_X7_valueOf, goodWord w = true := zg_cons rfl (zg_app (by decide +kernel) (zg_app zgU_wsX70 zg_nil))
theorem zi_k331_X7_valueOf : ∀ w ∈ wz_k331_X7_valueOf, w ∈ lw_tbl := zi_cons zw_788 (zi_app (zi_cons zw_190 zi_nil) (zi_app inX7 zi_nil))
set_option maxHeartbeats 4000000 in
set_option maxRecDepth 100000 in
theorem k331_X7_valueOf (l : Launch) (D : va_G) (zt : Nat × Nat × Nat × (Nat → Nat) × (Nat → Nat)) (q : Nat → Nat) (d : Nat → ClassId) (I : Nat → Int32) (A : Nat → Nat → Int32) (z1 : Int32) (hIv : IvX I A) : GM l D zt (tyX d) yX7_valueOf wz_k331_X7_valueOf ({ frames := 0, cells := 0, slots := 0, locals := 0 } : Room) [.ref (q 31), .int z1] (wX q d I A) (fun v _ w' => ∃ y0 : Int32, v = some (.int y0) ∧ w' = wX q d I A) 0 0 := by
  refine GM.of (cc := cX7_valueOf) (maxL := 2) (ret := (some .int)) (own := RX7) (lv := [(0, .ref (q 31)), (1, .int z1)]) (by decide) rfl rfl (Nat.le_of_ble_eq_true rfl) rfl (fun κ sz hk hR hN => ?_)
  have hin7 : ∀ w ∈ u_ws RX7 TX7 1, w ∈ wz_k331_X7_valueOf := fun w h => (List.mem_cons_of_mem _ (List.mem_append_right _ (List.mem_append_left _ h)))
  refine g_iload_n hk dX7_valueOf_0 rfl ?_
  have b10247l := Int32.le_toInt z1
  have b10247h := Int32.toInt_lt z1
  refine g_if_lt (tgt := 22) (a := z1.toInt) hk dX7_valueOf_1 (by decide) rfl (fun c10248 => ?_) (fun c10248 => ?_)
  · skip
    refine g_iconst (v := (-1)) hk dX7_valueOf_22 (by decide) ?_
    exact g_iret hk hR rfl ⟨(-1), rfl, rfl⟩ dX7_valueOf_23
  · skip
    refine g_iload_n hk dX7_valueOf_4 rfl ?_
    refine g_aload_n hk dX7_valueOf_5 rfl ?_
    refine gX_r31_0 hk hin7 (List.mem_cons_of_mem _ (List.mem_append_left _ (List.mem_of_getElem? (i := 0) rfl))) dX7_valueOf_6 ?_
    refine nX_18 hk dX7_valueOf_9 ?_
    refine g_icmp_ge (tgt := 22) (a := z1.toInt) (b := 4) hk dX7_valueOf_10 (by decide) rfl rfl (fun c10249 => ?_) (fun c10249 => ?_)
    · skip
      refine g_iconst (v := (-1)) hk dX7_valueOf_22 (by decide) ?_
      exact g_iret hk hR rfl ⟨(-1), rfl, rfl⟩ dX7_valueOf_23
    · skip
      refine g_aload_n hk dX7_valueOf_13 rfl ?_
      refine gX_r31_0 hk hin7 (List.mem_cons_of_mem _ (List.mem_append_left _ (List.mem_of_getElem? (i := 0) rfl))) dX7_valueOf_14 ?_
      refine g_iload_n hk dX7_valueOf_17 rfl ?_
      refine lX_18 (v := (A 18 z1.toNatClampNeg)) hk (vp_in_iff.mpr ⟨by omega, by omega⟩) rfl dX7_valueOf_18 ?_
      refine g_goto (tgt := 23) hk dX7_valueOf_19 (by decide) ?_
      have b10250l := Int32.le_toInt (A 18 z1.toNatClampNeg)
      have b10250h := Int32.toInt_lt (A 18 z1.toNatClampNeg)
      exact g_iret hk hR rfl ⟨(A 18 z1.toNatClampNeg), rfl, rfl⟩ dX7_valueOf_23
def wo_k330_X7_takeFrom : List Cond := [Cond.fieldLink RX7 20 "WarpDesk$Settings" "values" "[I", Cond.methodLink RX7 33 yX7_valueOf, Cond.instanceMethod yX7_valueOf, Cond.selects RX7 yX7_valueOf yX7_valueOf, Cond.initialized RX7]
def wz_k330_X7_takeFrom : List Cond := .code yX7_takeFrom cX7_takeFrom 3 none :: (wo_k330_X7_takeFrom ++ (wsX70 ++ (wz_k331_X7_valueOf ++ ([] : List Cond))))
theorem zg_k330_X7_takeFrom : ∀ w ∈ wz_k330_X7_takeFrom, goodWord w = true := zg_cons rfl (zg_app (by decide +kernel) (zg_app zgU_wsX70 (zg_app zg_k331_X7_valueOf zg_nil)))
theorem zi_k330_X7_takeFrom : ∀ w ∈ wz_k330_X7_takeFrom, w ∈ lw_tbl := zi_cons zw_784 (zi_app (zi_cons zw_190 (zi_cons zw_785 (zi_cons zw_786 (zi_cons zw_787 (zi_cons zw_107 zi_nil))))) (zi_app inX7 (zi_app zi_k331_X7_valueOf zi_nil)))
set_option maxHeartbeats 4000000 in
set_option maxRecDepth 100000 in
theorem k330_X7_takeFrom (l : Launch) (D : va_G) (zt : Nat × Nat × Nat × (Nat → Nat) × (Nat → Nat)) (q : Nat → Nat) (d : Nat → ClassId) (I : Nat → Int32) (A : Nat → Nat → Int32) (hIv : IvX I A) : GM l D zt (tyX d) yX7_takeFrom wz_k330_X7_takeFrom ({ frames := 1, cells := 0, slots := 0, locals := 21 } : Room) [.ref (q 18), .ref (q 31)] (wX q d I A) (fun v _ w' => ∃ (I' : Nat → Int32) (A' : Nat → Nat → Int32), Md [] I I' ∧ Md [10] A A' ∧ IvX I' A' ∧ v = none ∧ w' = wX q d I' A') 0 0 := by
  refine GM.of (cc := cX7_takeFrom) (maxL := 3) (ret := none) (own := RX7) (lv := [(0, .ref (q 18)), (1, .ref (q 31))]) (by decide) rfl rfl (Nat.le_of_ble_eq_true rfl) rfl (fun κ sz hk hR hN => ?_)
  have hin7 : ∀ w ∈ u_ws RX7 TX7 1, w ∈ wz_k330_X7_takeFrom := fun w h => (List.mem_cons_of_mem _ (List.mem_append_right _ (List.mem_append_left _ h)))
  refine g_iconst (v := 0) hk dX7_takeFrom_0 (by decide) ?_
  refine g_istore_n (lv' := [(2, .int 0), (0, .ref (q 18)), (1, .ref (q 31))]) hk dX7_takeFrom_1 (by decide) rfl ?_
  have lp10264 : ∀ (n10265 : Nat) (x10243 : Int32) (I10246 : Nat → Int32) (A10246 : Nat → Nat → Int32), (Md [] I I10246) → (Md [10] A A10246) → (IvX I10246 A10246) → (0 ≤ x10243.toInt) → (x10243.toInt ≤ 4) → (5 - x10243.toInt < (n10265 : Int)) → (0 < n10265) → GW κ 3 0 0 (wX q d I10246 A10246) 2 [(2, .int x10243), (0, .ref (q 18)), (1, .ref (q 31))] [] := by
    intro n10265
    induction n10265 with
    | zero =>
      intro x10243 I10246 A10246 hI10246 hA10246 hV10246 h10262 h10263 m10266 m10266z
      exact absurd m10266z (Nat.lt_irrefl 0)
    | succ n10265 ih10267 =>
      intro x10243 I10246 A10246 hI10246 hA10246 hV10246 h10262 h10263 m10266 m10266z
      refine g_iload_n hk dX7_takeFrom_2 rfl ?_
      refine g_aload_n hk dX7_takeFrom_3 rfl ?_
      refine gX_r18_0 hk hin7 (List.mem_cons_of_mem _ (List.mem_append_left _ (List.mem_of_getElem? (i := 0) rfl))) dX7_takeFrom_4 ?_
      refine nX_10 hk dX7_takeFrom_7 ?_
      refine g_icmp_ge (tgt := 28) (a := x10243.toInt) (b := 4) hk dX7_takeFrom_8 (by decide) rfl rfl (fun c10268 => ?_) (fun c10268 => ?_)
      · skip
        exact g_vret hk hR ⟨I10246, A10246, (show Md [] I I10246 from (Md.tr Md.rf hI10246 rfl)), (show Md [10] A A10246 from (Md.tr Md.rf hA10246 rfl)), hV10246, rfl, rfl⟩ dX7_takeFrom_28
      · skip
        refine g_aload_n hk dX7_takeFrom_11 rfl ?_
        refine gX_r18_0 hk hin7 (List.mem_cons_of_mem _ (List.mem_append_left _ (List.mem_of_getElem? (i := 0) rfl))) dX7_takeFrom_12 ?_
        refine g_iload_n hk dX7_takeFrom_15 rfl ?_
        refine g_aload_n hk dX7_takeFrom_16 rfl ?_
        refine g_iload_n hk dX7_takeFrom_17 rfl ?_
        refine g_callV (n := 1) hk (k331_X7_valueOf l D zt q d I10246 A10246 x10243 hV10246) (SP.same _) (fun _ h => h) (gi_V (List.mem_cons_of_mem _ (List.mem_append_left _ (List.mem_of_getElem? (i := 1) rfl))) (List.mem_cons_of_mem _ (List.mem_append_left _ (List.mem_of_getElem? (i := 2) rfl))) (List.mem_cons_of_mem _ (List.mem_append_left _ (List.mem_of_getElem? (i := 3) rfl))) (List.mem_cons_of_mem _ (List.mem_append_left _ (List.mem_of_getElem? (i := 4) rfl))) (gi_sub (fun w h => (List.mem_cons_of_mem _ (List.mem_append_right _ (List.mem_append_right _ (List.mem_append_left _ h))))) zg_k331_X7_valueOf)) rfl rfl rfl (by decide +kernel) ⟨Nat.le_of_ble_eq_true rfl, Nat.le_of_ble_eq_true rfl⟩ 31 rfl rfl rfl rfl (Nat.le_of_ble_eq_true rfl) ⟨Nat.le_of_ble_eq_true rfl, Nat.le_of_ble_eq_true rfl⟩ dX7_takeFrom_18 (fun v ty' w' hp hk' => ?_)
        obtain ⟨y10269, rfl, rfl⟩ := hp
        show GW κ 3 0 0 (wX q d I10246 A10246) 21 [(2, .int x10243), (0, .ref (q 18)), (1, .ref (q 31))] [.int y10269, .int x10243, .ref (q 19)]
        refine sX_10 (j := x10243.toNatClampNeg) hk (vp_in_iff.mpr ⟨by omega, by omega⟩) rfl dX7_takeFrom_21 ?_
        obtain ⟨y10270, ey10270⟩ : ∃ y : Int32, y = x10243 + Int32.ofInt 1 := ⟨_, rfl⟩
        have hy10270 : y10270.toInt = x10243.toInt + 1 := i32_add ey10270 rfl (by decide) (by omega) (by omega)
        refine g_iinc (v := y10270) (lv' := [(2, .int y10270), (0, .ref (q 18)), (1, .ref (q 31))]) hk 0 dX7_takeFrom_22 rfl ey10270.symm (by decide) rfl ?_
        refine g_goto (tgt := 2) hk dX7_takeFrom_25 (by decide) ?_
        exact g_lv (List.forall_mem_cons.mpr ⟨List.mem_of_getElem? (i := 0) rfl, (List.forall_mem_cons.mpr ⟨List.mem_of_getElem? (i := 1) rfl, (List.forall_mem_cons.mpr ⟨List.mem_of_getElem? (i := 2) rfl, (fun _ h => absurd h List.not_mem_nil)⟩)⟩)⟩) (ih10267 y10270 I10246 (up3 A10246 10 (x10243.toNatClampNeg) y10269) (show Md [] I I10246 from Md.tr hI10246 (show Md [] I10246 I10246 from Md.rf) rfl) (show Md [10] A (up3 A10246 10 (x10243.toNatClampNeg) y10269) from Md.tr hA10246 (show Md [10] A10246 (up3 A10246 10 (x10243.toNatClampNeg) y10269) from (Md.up3 Md.rf rfl)) rfl) ⟨(IvX_f0 (I := I10246) (A := A10246) hV10246), (IvX_f18 (I := I10246) (A := A10246) hV10246), (IvX_f30 (I := I10246) (A := A10246) hV10246), (IvX_f31 (I := I10246) (A := A10246) hV10246), (IvX_a4 (I := I10246) (A := A10246) hV10246), (IvX_a9 (I := I10246) (A := A10246) hV10246), trivial⟩ (by omega) (by omega) (by omega) (by omega))
  have k10272 : (0 : Int32).toInt = 0 := rfl
  obtain ⟨n10271, n10271a, n10271b⟩ : ∃ n : Nat, 5 - 0 < (n : Int) ∧ 0 < n := ⟨((5 - 0 : Int)).toNat + 1, by omega, by omega⟩
  exact lp10264 n10271 0 I A Md.rf Md.rf hIv (by omega) (by omega) n10271a n10271b
def wo_k327_X11_goOnFrom : List Cond := [Cond.fieldLink RX11 28 "WarpDesk" "series" "LWarpDesk$Series;", Cond.methodLink RX11 369 yX6_takeFrom, Cond.instanceMethod yX6_takeFrom, Cond.selects RX6 yX6_takeFrom yX6_takeFrom, Cond.initialized RX6, Cond.fieldLink RX11 42 "WarpDesk" "settings" "LWarpDesk$Settings;", Cond.fieldLink RX11 365 "WarpDesk$Stand" "settings" "LWarpDesk$Settings;", Cond.methodLink RX11 366 yX7_takeFrom, Cond.instanceMethod yX7_takeFrom, Cond.selects RX7 yX7_takeFrom yX7_takeFrom, Cond.initialized RX7, Cond.fieldLink RX11 49 "WarpDesk" "past" "LWarpDesk$Past;", Cond.methodLink RX11 371 yX3_forget, Cond.instanceMethod yX3_forget, Cond.selects RX3 yX3_forget yX3_forget, Cond.initialized RX3]
def wz_k327_X11_goOnFrom : List Cond := .code yX11_goOnFrom cX11_goOnFrom 2 none :: (wo_k327_X11_goOnFrom ++ (wsX80 ++ (wsX110 ++ (wz_k328_X6_takeFrom ++ (wz_k330_X7_takeFrom ++ (wz_k175_X3_forget ++ ([] : List Cond)))))))
theorem zg_k327_X11_goOnFrom : ∀ w ∈ wz_k327_X11_goOnFrom, goodWord w = true := zg_cons rfl (zg_app (by decide +kernel) (zg_app zgU_wsX80 (zg_app zgU_wsX110 (zg_app zg_k328_X6_takeFrom (zg_app zg_k330_X7_takeFrom (zg_app zg_k175_X3_forget zg_nil))))))
theorem zi_k327_X11_goOnFrom : ∀ w ∈ wz_k327_X11_goOnFrom, w ∈ lw_tbl := zi_cons zw_768 (zi_app (zi_cons zw_489 (zi_cons zw_769 (zi_cons zw_770 (zi_cons zw_771 (zi_cons zw_109 (zi_cons zw_491 (zi_cons zw_200 (zi_cons zw_781 (zi_cons zw_782 (zi_cons zw_783 (zi_cons zw_107 (zi_cons zw_492 (zi_cons zw_789 (zi_cons zw_790 (zi_cons zw_791 (zi_cons zw_110 zi_nil)))))))))))))))) (zi_app inX8 (zi_app inX11 (zi_app zi_k328_X6_takeFrom (zi_app zi_k330_X7_takeFrom (zi_app zi_k175_X3_forget zi_nil))))))
set_option maxHeartbeats 4000000 in
set_option maxRecDepth 100000 in
theorem k327_X11_goOnFrom (l : Launch) (D : va_G) (zt : Nat × Nat × Nat × (Nat → Nat) × (Nat → Nat)) (q : Nat → Nat) (d : Nat → ClassId) (I : Nat → Int32) (A : Nat → Nat → Int32) (hIv : IvX I A) : GM l D zt (tyX d) yX11_goOnFrom wz_k327_X11_goOnFrom ({ frames := 2, cells := 0, slots := 0, locals := 43 } : Room) [.ref (q 0), .ref (q 29)] (wX q d I A) (fun v _ w' => ∃ (I' : Nat → Int32) (A' : Nat → Nat → Int32), Md [17, 18, 21] I I' ∧ Md [7, 10] A A' ∧ IvX I' A' ∧ v = none ∧ w' = wX q d I' A') 0 0 := by
  refine GM.of (cc := cX11_goOnFrom) (maxL := 2) (ret := none) (own := RX11) (lv := [(0, .ref (q 0)), (1, .ref (q 29))]) (by decide) rfl rfl (Nat.le_of_ble_eq_true rfl) rfl (fun κ sz hk hR hN => ?_)
  have hin8 : ∀ w ∈ u_ws RX8 TX8 4, w ∈ wz_k327_X11_goOnFrom := fun w h => (List.mem_cons_of_mem _ (List.mem_append_right _ (List.mem_append_left _ h)))
  have hin11 : ∀ w ∈ u_ws RX11 TX11 10, w ∈ wz_k327_X11_goOnFrom := fun w h => (List.mem_cons_of_mem _ (List.mem_append_right _ (List.mem_append_right _ (List.mem_append_left _ h))))
  refine g_aload_n hk dX11_goOnFrom_0 rfl ?_
  refine gX_r0_2 hk hin11 (List.mem_cons_of_mem _ (List.mem_append_left _ (List.mem_of_getElem? (i := 0) rfl))) dX11_goOnFrom_1 ?_
  refine g_aload_n hk dX11_goOnFrom_4 rfl ?_
  refine g_callV (n := 1) hk (k328_X6_takeFrom l D zt q d I A  hIv) (SP.same _) (fun _ h => h) (gi_V (List.mem_cons_of_mem _ (List.mem_append_left _ (List.mem_of_getElem? (i := 1) rfl))) (List.mem_cons_of_mem _ (List.mem_append_left _ (List.mem_of_getElem? (i := 2) rfl))) (List.mem_cons_of_mem _ (List.mem_append_left _ (List.mem_of_getElem? (i := 3) rfl))) (List.mem_cons_of_mem _ (List.mem_append_left _ (List.mem_of_getElem? (i := 4) rfl))) (gi_sub (fun w h => (List.mem_cons_of_mem _ (List.mem_append_right _ (List.mem_append_right _ (List.mem_append_right _ (List.mem_append_left _ h)))))) zg_k328_X6_takeFrom)) rfl rfl rfl (by decide +kernel) ⟨Nat.le_of_ble_eq_true rfl, Nat.le_of_ble_eq_true rfl⟩ 13 rfl rfl rfl rfl (Nat.le_of_ble_eq_true rfl) ⟨Nat.le_of_ble_eq_true rfl, Nat.le_of_ble_eq_true rfl⟩ dX11_goOnFrom_5 (fun v ty' w' hp hk' => ?_)
  obtain ⟨I10242, A10242, hI10242, hA10242, hV10242, rfl, rfl⟩ := hp
  show GW κ 2 0 0 (wX q d I10242 A10242) 8 [(0, .ref (q 0)), (1, .ref (q 29))] []
  refine g_aload_n hk dX11_goOnFrom_8 rfl ?_
  refine gX_r0_4 hk hin11 (List.mem_cons_of_mem _ (List.mem_append_left _ (List.mem_of_getElem? (i := 5) rfl))) dX11_goOnFrom_9 ?_
  refine g_aload_n hk dX11_goOnFrom_12 rfl ?_
  refine gX_r29_2 hk hin8 (List.mem_cons_of_mem _ (List.mem_append_left _ (List.mem_of_getElem? (i := 6) rfl))) dX11_goOnFrom_13 ?_
  refine g_callV (n := 1) hk (k330_X7_takeFrom l D zt q d I10242 A10242  hV10242) (SP.same _) (fun _ h => h) (gi_V (List.mem_cons_of_mem _ (List.mem_append_left _ (List.mem_of_getElem? (i := 7) rfl))) (List.mem_cons_of_mem _ (List.mem_append_left _ (List.mem_of_getElem? (i := 8) rfl))) (List.mem_cons_of_mem _ (List.mem_append_left _ (List.mem_of_getElem? (i := 9) rfl))) (List.mem_cons_of_mem _ (List.mem_append_left _ (List.mem_of_getElem? (i := 10) rfl))) (gi_sub (fun w h => (List.mem_cons_of_mem _ (List.mem_append_right _ (List.mem_append_right _ (List.mem_append_right _ (List.mem_append_right _ (List.mem_append_left _ h))))))) zg_k330_X7_takeFrom)) rfl rfl rfl (by decide +kernel) ⟨Nat.le_of_ble_eq_true rfl, Nat.le_of_ble_eq_true rfl⟩ 18 rfl rfl rfl rfl (Nat.le_of_ble_eq_true rfl) ⟨Nat.le_of_ble_eq_true rfl, Nat.le_of_ble_eq_true rfl⟩ dX11_goOnFrom_16 (fun v ty' w' hp hk' => ?_)
  obtain ⟨I10274, A10274, hI10274, hA10274, hV10274, rfl, rfl⟩ := hp
  show GW κ 2 0 0 (wX q d I10274 A10274) 19 [(0, .ref (q 0)), (1, .ref (q 29))] []
  refine g_aload_n hk dX11_goOnFrom_19 rfl ?_
  refine gX_r0_5 hk hin11 (List.mem_cons_of_mem _ (List.mem_append_left _ (List.mem_of_getElem? (i := 11) rfl))) dX11_goOnFrom_20 ?_
  refine g_callV (n := 0) hk (k175_X3_forget l D zt q d I10274 A10274  hV10274) (SP.same _) (fun _ h => h) (gi_V (List.mem_cons_of_mem _ (List.mem_append_left _ (List.mem_of_getElem? (i := 12) rfl))) (List.mem_cons_of_mem _ (List.mem_append_left _ (List.mem_of_getElem? (i := 13) rfl))) (List.mem_cons_of_mem _ (List.mem_append_left _ (List.mem_of_getElem? (i := 14) rfl))) (List.mem_cons_of_mem _ (List.mem_append_left _ (List.mem_of_getElem? (i := 15) rfl))) (gi_sub (fun w h => (List.mem_cons_of_mem _ (List.mem_append_right _ (List.mem_append_right _ (List.mem_append_right _ (List.mem_append_right _ (List.mem_append_right _ (List.mem_append_left _ h)))))))) zg_k175_X3_forget)) rfl rfl rfl (by decide +kernel) ⟨Nat.le_of_ble_eq_true rfl, Nat.le_of_ble_eq_true rfl⟩ 20 rfl rfl rfl rfl (Nat.le_of_ble_eq_true rfl) ⟨Nat.le_of_ble_eq_true rfl, Nat.le_of_ble_eq_true rfl⟩ dX11_goOnFrom_23 (fun v ty' w' hp hk' => ?_)
  obtain ⟨I10276, A10276, hI10276, hA10276, hV10276, rfl, rfl⟩ := hp
  show GW κ 2 0 0 (wX q d I10276 A10276) 26 [(0, .ref (q 0)), (1, .ref (q 29))] []
  exact g_vret hk hR ⟨I10276, A10276, (show Md [17, 18, 21] I I10276 from (Md.tr (Md.tr (Md.tr Md.rf hI10242 rfl) hI10274 rfl) hI10276 rfl)), (show Md [7, 10] A A10276 from (Md.tr (Md.tr (Md.tr Md.rf hA10242 rfl) hA10274 rfl) hA10276 rfl)), hV10276, rfl, rfl⟩ dX11_goOnFrom_26
def wo_k334_X8_valueAt : List Cond := [Cond.fieldLink RX8 22 "WarpDesk$Stand" "size" "I", Cond.fieldLink RX8 9 "WarpDesk$Stand" "places" "[I"]
def wz_k334_X8_valueAt : List Cond := .code yX8_valueAt cX8_valueAt 2 (some .int) :: (wo_k334_X8_valueAt ++ (wsX80 ++ ([] : List Cond)))
theorem zg_k334_X8_valueAt : ∀ w ∈ wz_k334_X8_valueAt, goodWord w = true := zg_cons rfl (zg_app (by decide +kernel) (zg_app zgU_wsX80 zg_nil))
theorem zi_k334_X8_valueAt : ∀ w ∈ wz_k334_X8_valueAt, w ∈ lw_tbl := zi_cons zw_776 (zi_app (zi_cons zw_195 (zi_cons zw_194 zi_nil)) (zi_app inX8 zi_nil))
set_option maxHeartbeats 4000000 in
set_option maxRecDepth 100000 in
theorem k334_X8_valueAt (l : Launch) (D : va_G) (zt : Nat × Nat × Nat × (Nat → Nat) × (Nat → Nat)) (q : Nat → Nat) (d : Nat → ClassId) (I : Nat → Int32) (A : Nat → Nat → Int32) (z1 : Int32) (hIv : IvX I A) : GM l D zt (tyX d) yX8_valueAt wz_k334_X8_valueAt ({ frames := 0, cells := 0, slots := 0, locals := 0 } : Room) [.ref (q 33), .int z1] (wX q d I A) (fun v _ w' => ∃ y0 : Int32, v = some (.int y0) ∧ w' = wX q d I A) 0 0 := by
  refine GM.of (cc := cX8_valueAt) (maxL := 2) (ret := (some .int)) (own := RX8) (lv := [(0, .ref (q 33)), (1, .int z1)]) (by decide) rfl rfl (Nat.le_of_ble_eq_true rfl) rfl (fun κ sz hk hR hN => ?_)
  have hin8 : ∀ w ∈ u_ws RX8 TX8 4, w ∈ wz_k334_X8_valueAt := fun w h => (List.mem_cons_of_mem _ (List.mem_append_right _ (List.mem_append_left _ h)))
  refine g_iload_n hk dX8_valueAt_0 rfl ?_
  have b10288l := Int32.le_toInt z1
  have b10288h := Int32.toInt_lt z1
  refine g_if_lt (tgt := 30) (a := z1.toInt) hk dX8_valueAt_1 (by decide) rfl (fun c10289 => ?_) (fun c10289 => ?_)
  · skip
    refine g_sipush (v := (-1000)) hk dX8_valueAt_30 (by decide) ?_
    exact g_iret hk hR rfl ⟨(-1000), rfl, rfl⟩ dX8_valueAt_33
  · skip
    refine g_iload_n hk dX8_valueAt_4 rfl ?_
    refine g_aload_n hk dX8_valueAt_5 rfl ?_
    refine gX_i26 (v := (I 26)) hk hin8 (List.mem_cons_of_mem _ (List.mem_append_left _ (List.mem_of_getElem? (i := 0) rfl))) dX8_valueAt_6 rfl ?_
    have b10290l := Int32.le_toInt (I 26)
    have b10290h := Int32.toInt_lt (I 26)
    refine g_icmp_ge (tgt := 30) (a := z1.toInt) (b := (I 26).toInt) hk dX8_valueAt_9 (by decide) rfl rfl (fun c10291 => ?_) (fun c10291 => ?_)
    · skip
      refine g_sipush (v := (-1000)) hk dX8_valueAt_30 (by decide) ?_
      exact g_iret hk hR rfl ⟨(-1000), rfl, rfl⟩ dX8_valueAt_33
    · skip
      refine g_iload_n hk dX8_valueAt_12 rfl ?_
      refine g_aload_n hk dX8_valueAt_13 rfl ?_
      refine gX_r33_0 hk hin8 (List.mem_cons_of_mem _ (List.mem_append_left _ (List.mem_of_getElem? (i := 1) rfl))) dX8_valueAt_14 ?_
      refine nX_19 hk dX8_valueAt_17 ?_
      refine g_icmp_ge (tgt := 30) (a := z1.toInt) (b := 160) hk dX8_valueAt_18 (by decide) rfl rfl (fun c10292 => ?_) (fun c10292 => ?_)
      · skip
        refine g_sipush (v := (-1000)) hk dX8_valueAt_30 (by decide) ?_
        exact g_iret hk hR rfl ⟨(-1000), rfl, rfl⟩ dX8_valueAt_33
      · skip
        refine g_aload_n hk dX8_valueAt_21 rfl ?_
        refine gX_r33_0 hk hin8 (List.mem_cons_of_mem _ (List.mem_append_left _ (List.mem_of_getElem? (i := 1) rfl))) dX8_valueAt_22 ?_
        refine g_iload_n hk dX8_valueAt_25 rfl ?_
        refine lX_19 (v := (A 19 z1.toNatClampNeg)) hk (vp_in_iff.mpr ⟨by omega, by omega⟩) rfl dX8_valueAt_26 ?_
        refine g_goto (tgt := 33) hk dX8_valueAt_27 (by decide) ?_
        have b10293l := Int32.le_toInt (A 19 z1.toNatClampNeg)
        have b10293h := Int32.toInt_lt (A 19 z1.toNatClampNeg)
        exact g_iret hk hR rfl ⟨(A 19 z1.toNatClampNeg), rfl, rfl⟩ dX8_valueAt_33
def wo_k333_X6_takeFrom : List Cond := [Cond.fieldLink RX6 15 "WarpDesk$Series" "first" "I", Cond.fieldLink RX6 19 "WarpDesk$Series" "size" "I", Cond.fieldLink RX6 22 "WarpDesk$Stand" "size" "I", Cond.methodLink RX6 25 yX8_valueAt, Cond.instanceMethod yX8_valueAt, Cond.selects RX8 yX8_valueAt yX8_valueAt, Cond.initialized RX8, Cond.methodLink RX6 29 yX6_append, Cond.instanceMethod yX6_append, Cond.selects RX6 yX6_append yX6_append, Cond.initialized RX6]
def wz_k333_X6_takeFrom : List Cond := .code yX6_takeFrom cX6_takeFrom 3 none :: (wo_k333_X6_takeFrom ++ (wsX60 ++ (wsX80 ++ (wz_k334_X8_valueAt ++ (wz_k172_X6_append ++ ([] : List Cond))))))
theorem zg_k333_X6_takeFrom : ∀ w ∈ wz_k333_X6_takeFrom, goodWord w = true := zg_cons rfl (zg_app (by decide +kernel) (zg_app zgU_wsX60 (zg_app zgU_wsX80 (zg_app zg_k334_X8_valueAt (zg_app zg_k172_X6_append zg_nil)))))
theorem zi_k333_X6_takeFrom : ∀ w ∈ wz_k333_X6_takeFrom, w ∈ lw_tbl := zi_cons zw_772 (zi_app (zi_cons zw_281 (zi_cons zw_282 (zi_cons zw_196 (zi_cons zw_773 (zi_cons zw_774 (zi_cons zw_775 (zi_cons zw_106 (zi_cons zw_777 (zi_cons zw_778 (zi_cons zw_779 (zi_cons zw_109 zi_nil))))))))))) (zi_app inX6 (zi_app inX8 (zi_app zi_k334_X8_valueAt (zi_app zi_k172_X6_append zi_nil)))))
set_option maxHeartbeats 4000000 in
set_option maxRecDepth 100000 in
theorem k333_X6_takeFrom (l : Launch) (D : va_G) (zt : Nat × Nat × Nat × (Nat → Nat) × (Nat → Nat)) (q : Nat → Nat) (d : Nat → ClassId) (I : Nat → Int32) (A : Nat → Nat → Int32) (hIv : IvX I A) : GM l D zt (tyX d) yX6_takeFrom wz_k333_X6_takeFrom ({ frames := 1, cells := 0, slots := 0, locals := 21 } : Room) [.ref (q 13), .ref (q 33)] (wX q d I A) (fun v _ w' => ∃ (I' : Nat → Int32) (A' : Nat → Nat → Int32), Md [17, 18] I I' ∧ Md [7] A A' ∧ IvX I' A' ∧ v = none ∧ w' = wX q d I' A') 0 0 := by
  refine GM.of (cc := cX6_takeFrom) (maxL := 3) (ret := none) (own := RX6) (lv := [(0, .ref (q 13)), (1, .ref (q 33))]) (by decide) rfl rfl (Nat.le_of_ble_eq_true rfl) rfl (fun κ sz hk hR hN => ?_)
  have hin6 : ∀ w ∈ u_ws RX6 TX6 3, w ∈ wz_k333_X6_takeFrom := fun w h => (List.mem_cons_of_mem _ (List.mem_append_right _ (List.mem_append_left _ h)))
  have hin8 : ∀ w ∈ u_ws RX8 TX8 4, w ∈ wz_k333_X6_takeFrom := fun w h => (List.mem_cons_of_mem _ (List.mem_append_right _ (List.mem_append_right _ (List.mem_append_left _ h))))
  refine g_aload_n hk dX6_takeFrom_0 rfl ?_
  refine g_iconst (v := 0) hk dX6_takeFrom_1 (by decide) ?_
  refine pX_i17 hk hin6 (List.mem_cons_of_mem _ (List.mem_append_left _ (List.mem_of_getElem? (i := 0) rfl))) dX6_takeFrom_2 ?_
  refine g_aload_n hk dX6_takeFrom_5 rfl ?_
  refine g_iconst (v := 0) hk dX6_takeFrom_6 (by decide) ?_
  refine pX_i18 hk hin6 (List.mem_cons_of_mem _ (List.mem_append_left _ (List.mem_of_getElem? (i := 1) rfl))) dX6_takeFrom_7 ?_
  refine g_iconst (v := 0) hk dX6_takeFrom_10 (by decide) ?_
  refine g_istore_n (lv' := [(2, .int 0), (0, .ref (q 13)), (1, .ref (q 33))]) hk dX6_takeFrom_11 (by decide) rfl ?_
  have lp10318 : ∀ (n10319 : Nat) (x10282 : Int32) (I10285 : Nat → Int32) (A10285 : Nat → Nat → Int32), (Md [17, 18] (upd (upd I 17 0) 18 0) I10285) → (Md [7] A A10285) → (IvX I10285 A10285) → (0 ≤ x10282.toInt) → ((I 26).toInt + 1 - x10282.toInt < (n10319 : Int)) → (0 < n10319) → GW κ 3 0 0 (wX q d I10285 A10285) 12 [(2, .int x10282), (0, .ref (q 13)), (1, .ref (q 33))] [] := by
    intro n10319
    induction n10319 with
    | zero =>
      intro x10282 I10285 A10285 hI10285 hA10285 hV10285 h10317 m10320 m10320z
      exact absurd m10320z (Nat.lt_irrefl 0)
    | succ n10319 ih10321 =>
      intro x10282 I10285 A10285 hI10285 hA10285 hV10285 h10317 m10320 m10320z
      refine g_iload_n hk dX6_takeFrom_12 rfl ?_
      refine g_aload_n hk dX6_takeFrom_13 rfl ?_
      refine gX_i26 (v := (I 26)) hk hin8 (List.mem_cons_of_mem _ (List.mem_append_left _ (List.mem_of_getElem? (i := 2) rfl))) dX6_takeFrom_14 (hI10285 26 rfl) ?_
      have b10322l := Int32.le_toInt x10282
      have b10322h := Int32.toInt_lt x10282
      have b10323l := Int32.le_toInt (I 26)
      have b10323h := Int32.toInt_lt (I 26)
      refine g_icmp_ge (tgt := 36) (a := x10282.toInt) (b := (I 26).toInt) hk dX6_takeFrom_17 (by decide) rfl rfl (fun c10324 => ?_) (fun c10324 => ?_)
      · skip
        exact g_vret hk hR ⟨I10285, A10285, (show Md [17, 18] I I10285 from (Md.tr (Md.up (Md.up Md.rf rfl) rfl) hI10285 rfl)), (show Md [7] A A10285 from (Md.tr Md.rf hA10285 rfl)), hV10285, rfl, rfl⟩ dX6_takeFrom_36
      · skip
        refine g_aload_n hk dX6_takeFrom_20 rfl ?_
        refine g_aload_n hk dX6_takeFrom_21 rfl ?_
        refine g_iload_n hk dX6_takeFrom_22 rfl ?_
        refine g_callV (n := 1) hk (k334_X8_valueAt l D zt q d I10285 A10285 x10282 hV10285) (SP.same _) (fun _ h => h) (gi_V (List.mem_cons_of_mem _ (List.mem_append_left _ (List.mem_of_getElem? (i := 3) rfl))) (List.mem_cons_of_mem _ (List.mem_append_left _ (List.mem_of_getElem? (i := 4) rfl))) (List.mem_cons_of_mem _ (List.mem_append_left _ (List.mem_of_getElem? (i := 5) rfl))) (List.mem_cons_of_mem _ (List.mem_append_left _ (List.mem_of_getElem? (i := 6) rfl))) (gi_sub (fun w h => (List.mem_cons_of_mem _ (List.mem_append_right _ (List.mem_append_right _ (List.mem_append_right _ (List.mem_append_left _ h)))))) zg_k334_X8_valueAt)) rfl rfl rfl (by decide +kernel) ⟨Nat.le_of_ble_eq_true rfl, Nat.le_of_ble_eq_true rfl⟩ 33 rfl rfl rfl rfl (Nat.le_of_ble_eq_true rfl) ⟨Nat.le_of_ble_eq_true rfl, Nat.le_of_ble_eq_true rfl⟩ dX6_takeFrom_23 (fun v ty' w' hp hk' => ?_)
        obtain ⟨y10325, rfl, rfl⟩ := hp
        show GW κ 3 0 0 (wX q d I10285 A10285) 26 [(2, .int x10282), (0, .ref (q 13)), (1, .ref (q 33))] [.int y10325, .ref (q 13)]
        refine g_callV (n := 1) hk (k172_X6_append l D zt q d I10285 A10285 y10325 hV10285) (SP.same _) (fun _ h => h) (gi_V (List.mem_cons_of_mem _ (List.mem_append_left _ (List.mem_of_getElem? (i := 7) rfl))) (List.mem_cons_of_mem _ (List.mem_append_left _ (List.mem_of_getElem? (i := 8) rfl))) (List.mem_cons_of_mem _ (List.mem_append_left _ (List.mem_of_getElem? (i := 9) rfl))) (List.mem_cons_of_mem _ (List.mem_append_left _ (List.mem_of_getElem? (i := 10) rfl))) (gi_sub (fun w h => (List.mem_cons_of_mem _ (List.mem_append_right _ (List.mem_append_right _ (List.mem_append_right _ (List.mem_append_right _ (List.mem_append_left _ h))))))) zg_k172_X6_append)) rfl rfl rfl (by decide +kernel) ⟨Nat.le_of_ble_eq_true rfl, Nat.le_of_ble_eq_true rfl⟩ 13 rfl rfl rfl rfl (Nat.le_of_ble_eq_true rfl) ⟨Nat.le_of_ble_eq_true rfl, Nat.le_of_ble_eq_true rfl⟩ dX6_takeFrom_26 (fun v ty' w' hp hk' => ?_)
        obtain ⟨I10329, A10329, hI10329, hA10329, hV10329, y10326, c10327, c10328, rfl, rfl⟩ := hp
        show GW κ 3 0 0 (wX q d I10329 A10329) 29 [(2, .int x10282), (0, .ref (q 13)), (1, .ref (q 33))] [.int y10326]
        refine g_pop hk dX6_takeFrom_29 rfl ?_
        obtain ⟨y10330, ey10330⟩ : ∃ y : Int32, y = x10282 + Int32.ofInt 1 := ⟨_, rfl⟩
        have hy10330 : y10330.toInt = x10282.toInt + 1 := i32_add ey10330 rfl (by decide) (by omega) (by omega)
        refine g_iinc (v := y10330) (lv' := [(2, .int y10330), (0, .ref (q 13)), (1, .ref (q 33))]) hk 0 dX6_takeFrom_30 rfl ey10330.symm (by decide) rfl ?_
        refine g_goto (tgt := 12) hk dX6_takeFrom_33 (by decide) ?_
        exact g_lv (List.forall_mem_cons.mpr ⟨List.mem_of_getElem? (i := 0) rfl, (List.forall_mem_cons.mpr ⟨List.mem_of_getElem? (i := 1) rfl, (List.forall_mem_cons.mpr ⟨List.mem_of_getElem? (i := 2) rfl, (fun _ h => absurd h List.not_mem_nil)⟩)⟩)⟩) (ih10321 y10330 I10329 A10329 (show Md [17, 18] (upd (upd I 17 0) 18 0) I10329 from Md.tr hI10285 (show Md [17, 18] I10285 I10329 from (Md.tr Md.rf hI10329 rfl)) rfl) (show Md [7] A A10329 from Md.tr hA10285 (show Md [7] A10285 A10329 from (Md.tr Md.rf hA10329 rfl)) rfl) hV10329 (by omega) (by omega) (by omega))
  have k10332 : (0 : Int32).toInt = 0 := rfl
  obtain ⟨n10331, n10331a, n10331b⟩ : ∃ n : Nat, (I 26).toInt + 1 - 0 < (n : Int) ∧ 0 < n := ⟨(((I 26).toInt + 1 - 0 : Int)).toNat + 1, by omega, by omega⟩
  exact lp10318 n10331 0 (upd (upd I 17 0) 18 0) A Md.rf Md.rf ⟨(IvX_f0 (I := I) (A := A) hIv), (show 0 ≤ (0 : Int32).toInt ∧ (0 : Int32).toInt ≤ 160 from ⟨by decide, by decide⟩), (IvX_f30 (I := I) (A := A) hIv), (IvX_f31 (I := I) (A := A) hIv), (IvX_a4 (I := I) (A := A) hIv), (IvX_a9 (I := I) (A := A) hIv), trivial⟩ (by omega) n10331a n10331b
def wo_k336_X7_valueOf : List Cond := [Cond.fieldLink RX7 20 "WarpDesk$Settings" "values" "[I"]
def wz_k336_X7_valueOf : List Cond := .code yX7_valueOf cX7_valueOf 2 (some .int) :: (wo_k336_X7_valueOf ++ (wsX70 ++ ([] : List Cond)))
theorem zg_k336_X7_valueOf : ∀ w ∈ wz_k336_X7_valueOf, goodWord w = true := zg_cons rfl (zg_app (by decide +kernel) (zg_app zgU_wsX70 zg_nil))
theorem zi_k336_X7_valueOf : ∀ w ∈ wz_k336_X7_valueOf, w ∈ lw_tbl := zi_cons zw_788 (zi_app (zi_cons zw_190 zi_nil) (zi_app inX7 zi_nil))
set_option maxHeartbeats 4000000 in
set_option maxRecDepth 100000 in
theorem k336_X7_valueOf (l : Launch) (D : va_G) (zt : Nat × Nat × Nat × (Nat → Nat) × (Nat → Nat)) (q : Nat → Nat) (d : Nat → ClassId) (I : Nat → Int32) (A : Nat → Nat → Int32) (z1 : Int32) (hIv : IvX I A) : GM l D zt (tyX d) yX7_valueOf wz_k336_X7_valueOf ({ frames := 0, cells := 0, slots := 0, locals := 0 } : Room) [.ref (q 35), .int z1] (wX q d I A) (fun v _ w' => ∃ y0 : Int32, v = some (.int y0) ∧ w' = wX q d I A) 0 0 := by
  refine GM.of (cc := cX7_valueOf) (maxL := 2) (ret := (some .int)) (own := RX7) (lv := [(0, .ref (q 35)), (1, .int z1)]) (by decide) rfl rfl (Nat.le_of_ble_eq_true rfl) rfl (fun κ sz hk hR hN => ?_)
  have hin7 : ∀ w ∈ u_ws RX7 TX7 1, w ∈ wz_k336_X7_valueOf := fun w h => (List.mem_cons_of_mem _ (List.mem_append_right _ (List.mem_append_left _ h)))
  refine g_iload_n hk dX7_valueOf_0 rfl ?_
  have b10339l := Int32.le_toInt z1
  have b10339h := Int32.toInt_lt z1
  refine g_if_lt (tgt := 22) (a := z1.toInt) hk dX7_valueOf_1 (by decide) rfl (fun c10340 => ?_) (fun c10340 => ?_)
  · skip
    refine g_iconst (v := (-1)) hk dX7_valueOf_22 (by decide) ?_
    exact g_iret hk hR rfl ⟨(-1), rfl, rfl⟩ dX7_valueOf_23
  · skip
    refine g_iload_n hk dX7_valueOf_4 rfl ?_
    refine g_aload_n hk dX7_valueOf_5 rfl ?_
    refine gX_r35_0 hk hin7 (List.mem_cons_of_mem _ (List.mem_append_left _ (List.mem_of_getElem? (i := 0) rfl))) dX7_valueOf_6 ?_
    refine nX_20 hk dX7_valueOf_9 ?_
    refine g_icmp_ge (tgt := 22) (a := z1.toInt) (b := 4) hk dX7_valueOf_10 (by decide) rfl rfl (fun c10341 => ?_) (fun c10341 => ?_)
    · skip
      refine g_iconst (v := (-1)) hk dX7_valueOf_22 (by decide) ?_
      exact g_iret hk hR rfl ⟨(-1), rfl, rfl⟩ dX7_valueOf_23
    · skip
      refine g_aload_n hk dX7_valueOf_13 rfl ?_
      refine gX_r35_0 hk hin7 (List.mem_cons_of_mem _ (List.mem_append_left _ (List.mem_of_getElem? (i := 0) rfl))) dX7_valueOf_14 ?_
      refine g_iload_n hk dX7_valueOf_17 rfl ?_
      refine lX_20 (v := (A 20 z1.toNatClampNeg)) hk (vp_in_iff.mpr ⟨by omega, by omega⟩) rfl dX7_valueOf_18 ?_
      refine g_goto (tgt := 23) hk dX7_valueOf_19 (by decide) ?_
      have b10342l := Int32.le_toInt (A 20 z1.toNatClampNeg)
      have b10342h := Int32.toInt_lt (A 20 z1.toNatClampNeg)
      exact g_iret hk hR rfl ⟨(A 20 z1.toNatClampNeg), rfl, rfl⟩ dX7_valueOf_23
def wo_k335_X7_takeFrom : List Cond := [Cond.fieldLink RX7 20 "WarpDesk$Settings" "values" "[I", Cond.methodLink RX7 33 yX7_valueOf, Cond.instanceMethod yX7_valueOf, Cond.selects RX7 yX7_valueOf yX7_valueOf, Cond.initialized RX7]
def wz_k335_X7_takeFrom : List Cond := .code yX7_takeFrom cX7_takeFrom 3 none :: (wo_k335_X7_takeFrom ++ (wsX70 ++ (wz_k336_X7_valueOf ++ ([] : List Cond))))
theorem zg_k335_X7_takeFrom : ∀ w ∈ wz_k335_X7_takeFrom, goodWord w = true := zg_cons rfl (zg_app (by decide +kernel) (zg_app zgU_wsX70 (zg_app zg_k336_X7_valueOf zg_nil)))
theorem zi_k335_X7_takeFrom : ∀ w ∈ wz_k335_X7_takeFrom, w ∈ lw_tbl := zi_cons zw_784 (zi_app (zi_cons zw_190 (zi_cons zw_785 (zi_cons zw_786 (zi_cons zw_787 (zi_cons zw_107 zi_nil))))) (zi_app inX7 (zi_app zi_k336_X7_valueOf zi_nil)))
set_option maxHeartbeats 4000000 in
set_option maxRecDepth 100000 in
theorem k335_X7_takeFrom (l : Launch) (D : va_G) (zt : Nat × Nat × Nat × (Nat → Nat) × (Nat → Nat)) (q : Nat → Nat) (d : Nat → ClassId) (I : Nat → Int32) (A : Nat → Nat → Int32) (hIv : IvX I A) : GM l D zt (tyX d) yX7_takeFrom wz_k335_X7_takeFrom ({ frames := 1, cells := 0, slots := 0, locals := 21 } : Room) [.ref (q 18), .ref (q 35)] (wX q d I A) (fun v _ w' => ∃ (I' : Nat → Int32) (A' : Nat → Nat → Int32), Md [] I I' ∧ Md [10] A A' ∧ IvX I' A' ∧ v = none ∧ w' = wX q d I' A') 0 0 := by
  refine GM.of (cc := cX7_takeFrom) (maxL := 3) (ret := none) (own := RX7) (lv := [(0, .ref (q 18)), (1, .ref (q 35))]) (by decide) rfl rfl (Nat.le_of_ble_eq_true rfl) rfl (fun κ sz hk hR hN => ?_)
  have hin7 : ∀ w ∈ u_ws RX7 TX7 1, w ∈ wz_k335_X7_takeFrom := fun w h => (List.mem_cons_of_mem _ (List.mem_append_right _ (List.mem_append_left _ h)))
  refine g_iconst (v := 0) hk dX7_takeFrom_0 (by decide) ?_
  refine g_istore_n (lv' := [(2, .int 0), (0, .ref (q 18)), (1, .ref (q 35))]) hk dX7_takeFrom_1 (by decide) rfl ?_
  have lp10356 : ∀ (n10357 : Nat) (x10335 : Int32) (I10338 : Nat → Int32) (A10338 : Nat → Nat → Int32), (Md [] I I10338) → (Md [10] A A10338) → (IvX I10338 A10338) → (0 ≤ x10335.toInt) → (x10335.toInt ≤ 4) → (5 - x10335.toInt < (n10357 : Int)) → (0 < n10357) → GW κ 3 0 0 (wX q d I10338 A10338) 2 [(2, .int x10335), (0, .ref (q 18)), (1, .ref (q 35))] [] := by
    intro n10357
    induction n10357 with
    | zero =>
      intro x10335 I10338 A10338 hI10338 hA10338 hV10338 h10354 h10355 m10358 m10358z
      exact absurd m10358z (Nat.lt_irrefl 0)
    | succ n10357 ih10359 =>
      intro x10335 I10338 A10338 hI10338 hA10338 hV10338 h10354 h10355 m10358 m10358z
      refine g_iload_n hk dX7_takeFrom_2 rfl ?_
      refine g_aload_n hk dX7_takeFrom_3 rfl ?_
      refine gX_r18_0 hk hin7 (List.mem_cons_of_mem _ (List.mem_append_left _ (List.mem_of_getElem? (i := 0) rfl))) dX7_takeFrom_4 ?_
      refine nX_10 hk dX7_takeFrom_7 ?_
      refine g_icmp_ge (tgt := 28) (a := x10335.toInt) (b := 4) hk dX7_takeFrom_8 (by decide) rfl rfl (fun c10360 => ?_) (fun c10360 => ?_)
      · skip
        exact g_vret hk hR ⟨I10338, A10338, (show Md [] I I10338 from (Md.tr Md.rf hI10338 rfl)), (show Md [10] A A10338 from (Md.tr Md.rf hA10338 rfl)), hV10338, rfl, rfl⟩ dX7_takeFrom_28
      · skip
        refine g_aload_n hk dX7_takeFrom_11 rfl ?_
        refine gX_r18_0 hk hin7 (List.mem_cons_of_mem _ (List.mem_append_left _ (List.mem_of_getElem? (i := 0) rfl))) dX7_takeFrom_12 ?_
        refine g_iload_n hk dX7_takeFrom_15 rfl ?_
        refine g_aload_n hk dX7_takeFrom_16 rfl ?_
        refine g_iload_n hk dX7_takeFrom_17 rfl ?_
        refine g_callV (n := 1) hk (k336_X7_valueOf l D zt q d I10338 A10338 x10335 hV10338) (SP.same _) (fun _ h => h) (gi_V (List.mem_cons_of_mem _ (List.mem_append_left _ (List.mem_of_getElem? (i := 1) rfl))) (List.mem_cons_of_mem _ (List.mem_append_left _ (List.mem_of_getElem? (i := 2) rfl))) (List.mem_cons_of_mem _ (List.mem_append_left _ (List.mem_of_getElem? (i := 3) rfl))) (List.mem_cons_of_mem _ (List.mem_append_left _ (List.mem_of_getElem? (i := 4) rfl))) (gi_sub (fun w h => (List.mem_cons_of_mem _ (List.mem_append_right _ (List.mem_append_right _ (List.mem_append_left _ h))))) zg_k336_X7_valueOf)) rfl rfl rfl (by decide +kernel) ⟨Nat.le_of_ble_eq_true rfl, Nat.le_of_ble_eq_true rfl⟩ 35 rfl rfl rfl rfl (Nat.le_of_ble_eq_true rfl) ⟨Nat.le_of_ble_eq_true rfl, Nat.le_of_ble_eq_true rfl⟩ dX7_takeFrom_18 (fun v ty' w' hp hk' => ?_)
        obtain ⟨y10361, rfl, rfl⟩ := hp
        show GW κ 3 0 0 (wX q d I10338 A10338) 21 [(2, .int x10335), (0, .ref (q 18)), (1, .ref (q 35))] [.int y10361, .int x10335, .ref (q 19)]
        refine sX_10 (j := x10335.toNatClampNeg) hk (vp_in_iff.mpr ⟨by omega, by omega⟩) rfl dX7_takeFrom_21 ?_
        obtain ⟨y10362, ey10362⟩ : ∃ y : Int32, y = x10335 + Int32.ofInt 1 := ⟨_, rfl⟩
        have hy10362 : y10362.toInt = x10335.toInt + 1 := i32_add ey10362 rfl (by decide) (by omega) (by omega)
        refine g_iinc (v := y10362) (lv' := [(2, .int y10362), (0, .ref (q 18)), (1, .ref (q 35))]) hk 0 dX7_takeFrom_22 rfl ey10362.symm (by decide) rfl ?_
        refine g_goto (tgt := 2) hk dX7_takeFrom_25 (by decide) ?_
        exact g_lv (List.forall_mem_cons.mpr ⟨List.mem_of_getElem? (i := 0) rfl, (List.forall_mem_cons.mpr ⟨List.mem_of_getElem? (i := 1) rfl, (List.forall_mem_cons.mpr ⟨List.mem_of_getElem? (i := 2) rfl, (fun _ h => absurd h List.not_mem_nil)⟩)⟩)⟩) (ih10359 y10362 I10338 (up3 A10338 10 (x10335.toNatClampNeg) y10361) (show Md [] I I10338 from Md.tr hI10338 (show Md [] I10338 I10338 from Md.rf) rfl) (show Md [10] A (up3 A10338 10 (x10335.toNatClampNeg) y10361) from Md.tr hA10338 (show Md [10] A10338 (up3 A10338 10 (x10335.toNatClampNeg) y10361) from (Md.up3 Md.rf rfl)) rfl) ⟨(IvX_f0 (I := I10338) (A := A10338) hV10338), (IvX_f18 (I := I10338) (A := A10338) hV10338), (IvX_f30 (I := I10338) (A := A10338) hV10338), (IvX_f31 (I := I10338) (A := A10338) hV10338), (IvX_a4 (I := I10338) (A := A10338) hV10338), (IvX_a9 (I := I10338) (A := A10338) hV10338), trivial⟩ (by omega) (by omega) (by omega) (by omega))
  have k10364 : (0 : Int32).toInt = 0 := rfl
  obtain ⟨n10363, n10363a, n10363b⟩ : ∃ n : Nat, 5 - 0 < (n : Int) ∧ 0 < n := ⟨((5 - 0 : Int)).toNat + 1, by omega, by omega⟩
  exact lp10356 n10363 0 I A Md.rf Md.rf hIv (by omega) (by omega) n10363a n10363b
def wo_k332_X11_goOnFrom : List Cond := [Cond.fieldLink RX11 28 "WarpDesk" "series" "LWarpDesk$Series;", Cond.methodLink RX11 369 yX6_takeFrom, Cond.instanceMethod yX6_takeFrom, Cond.selects RX6 yX6_takeFrom yX6_takeFrom, Cond.initialized RX6, Cond.fieldLink RX11 42 "WarpDesk" "settings" "LWarpDesk$Settings;", Cond.fieldLink RX11 365 "WarpDesk$Stand" "settings" "LWarpDesk$Settings;", Cond.methodLink RX11 366 yX7_takeFrom, Cond.instanceMethod yX7_takeFrom, Cond.selects RX7 yX7_takeFrom yX7_takeFrom, Cond.initialized RX7, Cond.fieldLink RX11 49 "WarpDesk" "past" "LWarpDesk$Past;", Cond.methodLink RX11 371 yX3_forget, Cond.instanceMethod yX3_forget, Cond.selects RX3 yX3_forget yX3_forget, Cond.initialized RX3]
def wz_k332_X11_goOnFrom : List Cond := .code yX11_goOnFrom cX11_goOnFrom 2 none :: (wo_k332_X11_goOnFrom ++ (wsX80 ++ (wsX110 ++ (wz_k333_X6_takeFrom ++ (wz_k335_X7_takeFrom ++ (wz_k175_X3_forget ++ ([] : List Cond)))))))
theorem zg_k332_X11_goOnFrom : ∀ w ∈ wz_k332_X11_goOnFrom, goodWord w = true := zg_cons rfl (zg_app (by decide +kernel) (zg_app zgU_wsX80 (zg_app zgU_wsX110 (zg_app zg_k333_X6_takeFrom (zg_app zg_k335_X7_takeFrom (zg_app zg_k175_X3_forget zg_nil))))))
theorem zi_k332_X11_goOnFrom : ∀ w ∈ wz_k332_X11_goOnFrom, w ∈ lw_tbl := zi_cons zw_768 (zi_app (zi_cons zw_489 (zi_cons zw_769 (zi_cons zw_770 (zi_cons zw_771 (zi_cons zw_109 (zi_cons zw_491 (zi_cons zw_200 (zi_cons zw_781 (zi_cons zw_782 (zi_cons zw_783 (zi_cons zw_107 (zi_cons zw_492 (zi_cons zw_789 (zi_cons zw_790 (zi_cons zw_791 (zi_cons zw_110 zi_nil)))))))))))))))) (zi_app inX8 (zi_app inX11 (zi_app zi_k333_X6_takeFrom (zi_app zi_k335_X7_takeFrom (zi_app zi_k175_X3_forget zi_nil))))))
set_option maxHeartbeats 4000000 in
set_option maxRecDepth 100000 in
theorem k332_X11_goOnFrom (l : Launch) (D : va_G) (zt : Nat × Nat × Nat × (Nat → Nat) × (Nat → Nat)) (q : Nat → Nat) (d : Nat → ClassId) (I : Nat → Int32) (A : Nat → Nat → Int32) (hIv : IvX I A) : GM l D zt (tyX d) yX11_goOnFrom wz_k332_X11_goOnFrom ({ frames := 2, cells := 0, slots := 0, locals := 43 } : Room) [.ref (q 0), .ref (q 33)] (wX q d I A) (fun v _ w' => ∃ (I' : Nat → Int32) (A' : Nat → Nat → Int32), Md [17, 18, 21] I I' ∧ Md [7, 10] A A' ∧ IvX I' A' ∧ v = none ∧ w' = wX q d I' A') 0 0 := by
  refine GM.of (cc := cX11_goOnFrom) (maxL := 2) (ret := none) (own := RX11) (lv := [(0, .ref (q 0)), (1, .ref (q 33))]) (by decide) rfl rfl (Nat.le_of_ble_eq_true rfl) rfl (fun κ sz hk hR hN => ?_)
  have hin8 : ∀ w ∈ u_ws RX8 TX8 4, w ∈ wz_k332_X11_goOnFrom := fun w h => (List.mem_cons_of_mem _ (List.mem_append_right _ (List.mem_append_left _ h)))
  have hin11 : ∀ w ∈ u_ws RX11 TX11 10, w ∈ wz_k332_X11_goOnFrom := fun w h => (List.mem_cons_of_mem _ (List.mem_append_right _ (List.mem_append_right _ (List.mem_append_left _ h))))
  refine g_aload_n hk dX11_goOnFrom_0 rfl ?_
  refine gX_r0_2 hk hin11 (List.mem_cons_of_mem _ (List.mem_append_left _ (List.mem_of_getElem? (i := 0) rfl))) dX11_goOnFrom_1 ?_
  refine g_aload_n hk dX11_goOnFrom_4 rfl ?_
  refine g_callV (n := 1) hk (k333_X6_takeFrom l D zt q d I A  hIv) (SP.same _) (fun _ h => h) (gi_V (List.mem_cons_of_mem _ (List.mem_append_left _ (List.mem_of_getElem? (i := 1) rfl))) (List.mem_cons_of_mem _ (List.mem_append_left _ (List.mem_of_getElem? (i := 2) rfl))) (List.mem_cons_of_mem _ (List.mem_append_left _ (List.mem_of_getElem? (i := 3) rfl))) (List.mem_cons_of_mem _ (List.mem_append_left _ (List.mem_of_getElem? (i := 4) rfl))) (gi_sub (fun w h => (List.mem_cons_of_mem _ (List.mem_append_right _ (List.mem_append_right _ (List.mem_append_right _ (List.mem_append_left _ h)))))) zg_k333_X6_takeFrom)) rfl rfl rfl (by decide +kernel) ⟨Nat.le_of_ble_eq_true rfl, Nat.le_of_ble_eq_true rfl⟩ 13 rfl rfl rfl rfl (Nat.le_of_ble_eq_true rfl) ⟨Nat.le_of_ble_eq_true rfl, Nat.le_of_ble_eq_true rfl⟩ dX11_goOnFrom_5 (fun v ty' w' hp hk' => ?_)
  obtain ⟨I10334, A10334, hI10334, hA10334, hV10334, rfl, rfl⟩ := hp
  show GW κ 2 0 0 (wX q d I10334 A10334) 8 [(0, .ref (q 0)), (1, .ref (q 33))] []
  refine g_aload_n hk dX11_goOnFrom_8 rfl ?_
  refine gX_r0_4 hk hin11 (List.mem_cons_of_mem _ (List.mem_append_left _ (List.mem_of_getElem? (i := 5) rfl))) dX11_goOnFrom_9 ?_
  refine g_aload_n hk dX11_goOnFrom_12 rfl ?_
  refine gX_r33_2 hk hin8 (List.mem_cons_of_mem _ (List.mem_append_left _ (List.mem_of_getElem? (i := 6) rfl))) dX11_goOnFrom_13 ?_
  refine g_callV (n := 1) hk (k335_X7_takeFrom l D zt q d I10334 A10334  hV10334) (SP.same _) (fun _ h => h) (gi_V (List.mem_cons_of_mem _ (List.mem_append_left _ (List.mem_of_getElem? (i := 7) rfl))) (List.mem_cons_of_mem _ (List.mem_append_left _ (List.mem_of_getElem? (i := 8) rfl))) (List.mem_cons_of_mem _ (List.mem_append_left _ (List.mem_of_getElem? (i := 9) rfl))) (List.mem_cons_of_mem _ (List.mem_append_left _ (List.mem_of_getElem? (i := 10) rfl))) (gi_sub (fun w h => (List.mem_cons_of_mem _ (List.mem_append_right _ (List.mem_append_right _ (List.mem_append_right _ (List.mem_append_right _ (List.mem_append_left _ h))))))) zg_k335_X7_takeFrom)) rfl rfl rfl (by decide +kernel) ⟨Nat.le_of_ble_eq_true rfl, Nat.le_of_ble_eq_true rfl⟩ 18 rfl rfl rfl rfl (Nat.le_of_ble_eq_true rfl) ⟨Nat.le_of_ble_eq_true rfl, Nat.le_of_ble_eq_true rfl⟩ dX11_goOnFrom_16 (fun v ty' w' hp hk' => ?_)
  obtain ⟨I10366, A10366, hI10366, hA10366, hV10366, rfl, rfl⟩ := hp
  show GW κ 2 0 0 (wX q d I10366 A10366) 19 [(0, .ref (q 0)), (1, .ref (q 33))] []
  refine g_aload_n hk dX11_goOnFrom_19 rfl ?_
  refine gX_r0_5 hk hin11 (List.mem_cons_of_mem _ (List.mem_append_left _ (List.mem_of_getElem? (i := 11) rfl))) dX11_goOnFrom_20 ?_
  refine g_callV (n := 0) hk (k175_X3_forget l D zt q d I10366 A10366  hV10366) (SP.same _) (fun _ h => h) (gi_V (List.mem_cons_of_mem _ (List.mem_append_left _ (List.mem_of_getElem? (i := 12) rfl))) (List.mem_cons_of_mem _ (List.mem_append_left _ (List.mem_of_getElem? (i := 13) rfl))) (List.mem_cons_of_mem _ (List.mem_append_left _ (List.mem_of_getElem? (i := 14) rfl))) (List.mem_cons_of_mem _ (List.mem_append_left _ (List.mem_of_getElem? (i := 15) rfl))) (gi_sub (fun w h => (List.mem_cons_of_mem _ (List.mem_append_right _ (List.mem_append_right _ (List.mem_append_right _ (List.mem_append_right _ (List.mem_append_right _ (List.mem_append_left _ h)))))))) zg_k175_X3_forget)) rfl rfl rfl (by decide +kernel) ⟨Nat.le_of_ble_eq_true rfl, Nat.le_of_ble_eq_true rfl⟩ 20 rfl rfl rfl rfl (Nat.le_of_ble_eq_true rfl) ⟨Nat.le_of_ble_eq_true rfl, Nat.le_of_ble_eq_true rfl⟩ dX11_goOnFrom_23 (fun v ty' w' hp hk' => ?_)
  obtain ⟨I10368, A10368, hI10368, hA10368, hV10368, rfl, rfl⟩ := hp
  show GW κ 2 0 0 (wX q d I10368 A10368) 26 [(0, .ref (q 0)), (1, .ref (q 33))] []
  exact g_vret hk hR ⟨I10368, A10368, (show Md [17, 18, 21] I I10368 from (Md.tr (Md.tr (Md.tr Md.rf hI10334 rfl) hI10366 rfl) hI10368 rfl)), (show Md [7, 10] A A10368 from (Md.tr (Md.tr (Md.tr Md.rf hA10334 rfl) hA10366 rfl) hA10368 rfl)), hV10368, rfl, rfl⟩ dX11_goOnFrom_26
def wo_k321_X11_restore : List Cond := [Cond.fieldLink RX11 56 "WarpDesk" "slots" "[LWarpDesk$Stand;", Cond.fieldLink RX11 110 "WarpDesk$Stand" "held" "Z", Cond.methodLink RX11 106 yX11_goOnFrom, Cond.instanceMethod yX11_goOnFrom, Cond.selects RX11 yX11_goOnFrom yX11_goOnFrom, Cond.initialized RX11]
def wz_k321_X11_restore : List Cond := .code yX11_restore cX11_restore 2 (some .boolean) :: (wo_k321_X11_restore ++ (wsX80 ++ (wsX110 ++ (wz_k322_X11_goOnFrom ++ (wz_k327_X11_goOnFrom ++ (wz_k332_X11_goOnFrom ++ ([] : List Cond)))))))
theorem zg_k321_X11_restore : ∀ w ∈ wz_k321_X11_restore, goodWord w = true := zg_cons rfl (zg_app (by decide +kernel) (zg_app zgU_wsX80 (zg_app zgU_wsX110 (zg_app zg_k322_X11_goOnFrom (zg_app zg_k327_X11_goOnFrom (zg_app zg_k332_X11_goOnFrom zg_nil))))))
theorem zi_k321_X11_restore : ∀ w ∈ wz_k321_X11_restore, w ∈ lw_tbl := zi_cons zw_1338 (zi_app (zi_cons zw_493 (zi_cons zw_201 (zi_cons zw_765 (zi_cons zw_767 (zi_cons zw_22 (zi_cons zw_103 zi_nil)))))) (zi_app inX8 (zi_app inX11 (zi_app zi_k322_X11_goOnFrom (zi_app zi_k327_X11_goOnFrom (zi_app zi_k332_X11_goOnFrom zi_nil))))))
set_option maxHeartbeats 4000000 in
set_option maxRecDepth 100000 in
theorem k321_X11_restore (l : Launch) (D : va_G) (zt : Nat × Nat × Nat × (Nat → Nat) × (Nat → Nat)) (q : Nat → Nat) (d : Nat → ClassId) (I : Nat → Int32) (A : Nat → Nat → Int32) (z1 : Int32) (hIv : IvX I A) : GM l D zt (tyX d) yX11_restore wz_k321_X11_restore ({ frames := 3, cells := 0, slots := 0, locals := 64 } : Room) [.ref (q 0), .int z1] (wX q d I A) (fun v _ w' => ∃ (I' : Nat → Int32) (A' : Nat → Nat → Int32), Md [17, 18, 21] I I' ∧ Md [7, 10] A A' ∧ IvX I' A' ∧ ∃ y0 : Int32, (0 ≤ y0.toInt) ∧ (y0.toInt ≤ 1) ∧ v = some (.int y0) ∧ w' = wX q d I' A') 0 0 := by
  refine GM.of (cc := cX11_restore) (maxL := 2) (ret := (some .boolean)) (own := RX11) (lv := [(0, .ref (q 0)), (1, .int z1)]) (by decide) rfl rfl (Nat.le_of_ble_eq_true rfl) rfl (fun κ sz hk hR hN => ?_)
  have hin8 : ∀ w ∈ u_ws RX8 TX8 4, w ∈ wz_k321_X11_restore := fun w h => (List.mem_cons_of_mem _ (List.mem_append_right _ (List.mem_append_left _ h)))
  have hin11 : ∀ w ∈ u_ws RX11 TX11 10, w ∈ wz_k321_X11_restore := fun w h => (List.mem_cons_of_mem _ (List.mem_append_right _ (List.mem_append_right _ (List.mem_append_left _ h))))
  refine g_iload_n hk dX11_restore_0 rfl ?_
  have b10092l := Int32.le_toInt z1
  have b10092h := Int32.toInt_lt z1
  refine g_if_lt (tgt := 25) (a := z1.toInt) hk dX11_restore_1 (by decide) rfl (fun c10093 => ?_) (fun c10093 => ?_)
  · skip
    refine g_iconst (v := 0) hk dX11_restore_25 (by decide) ?_
    exact g_iret hk hR rfl ⟨I, A, (show Md [17, 18, 21] I I from Md.rf), (show Md [7, 10] A A from Md.rf), hIv, 0, (by decide), (by decide), rfl, rfl⟩ dX11_restore_26
  · skip
    refine g_iload_n hk dX11_restore_4 rfl ?_
    refine g_aload_n hk dX11_restore_5 rfl ?_
    refine gX_r0_6 hk hin11 (List.mem_cons_of_mem _ (List.mem_append_left _ (List.mem_of_getElem? (i := 0) rfl))) dX11_restore_6 ?_
    refine nX_14 hk dX11_restore_9 ?_
    refine g_icmp_ge (tgt := 25) (a := z1.toInt) (b := 3) hk dX11_restore_10 (by decide) rfl rfl (fun c10094 => ?_) (fun c10094 => ?_)
    · skip
      refine g_iconst (v := 0) hk dX11_restore_25 (by decide) ?_
      exact g_iret hk hR rfl ⟨I, A, (show Md [17, 18, 21] I I from Md.rf), (show Md [7, 10] A A from Md.rf), hIv, 0, (by decide), (by decide), rfl, rfl⟩ dX11_restore_26
    · skip
      refine g_aload_n hk dX11_restore_13 rfl ?_
      refine gX_r0_6 hk hin11 (List.mem_cons_of_mem _ (List.mem_append_left _ (List.mem_of_getElem? (i := 0) rfl))) dX11_restore_14 ?_
      refine g_iload_n hk dX11_restore_17 rfl ?_
      by_cases c10095 : z1.toInt = 0
      · have ec10095 : z1 = 0 := Int32.toInt_inj.mp c10095
        rw [ec10095]
        show GW κ 2 0 0 (wX q d I A) 18 [(0, .ref (q 0)), (1, .int 0)] [.int 0, .ref (q 24)]
        refine lX_14 hk (vp_in_iff.mpr ⟨by decide, by decide⟩) rfl dX11_restore_18 ?_
        refine gX_i23 (v := (I 23)) hk hin8 (List.mem_cons_of_mem _ (List.mem_append_left _ (List.mem_of_getElem? (i := 1) rfl))) dX11_restore_19 rfl ?_
        have b10096l := Int32.le_toInt (I 23)
        have b10096h := Int32.toInt_lt (I 23)
        refine g_if_ne (tgt := 27) (a := (I 23).toInt) hk dX11_restore_22 (by decide) rfl (fun c10097 => ?_) (fun c10097 => ?_)
        · skip
          refine g_aload_n hk dX11_restore_27 rfl ?_
          refine g_aload_n hk dX11_restore_28 rfl ?_
          refine gX_r0_6 hk hin11 (List.mem_cons_of_mem _ (List.mem_append_left _ (List.mem_of_getElem? (i := 0) rfl))) dX11_restore_29 ?_
          refine g_iload_n hk dX11_restore_32 rfl ?_
          refine lX_14 hk (vp_in_iff.mpr ⟨by decide, by decide⟩) rfl dX11_restore_33 ?_
          refine g_callV (n := 1) hk (k322_X11_goOnFrom l D zt q d I A  hIv) (SP.same _) (fun _ h => h) (gi_V (List.mem_cons_of_mem _ (List.mem_append_left _ (List.mem_of_getElem? (i := 2) rfl))) (List.mem_cons_of_mem _ (List.mem_append_left _ (List.mem_of_getElem? (i := 3) rfl))) (List.mem_cons_of_mem _ (List.mem_append_left _ (List.mem_of_getElem? (i := 4) rfl))) (List.mem_cons_of_mem _ (List.mem_append_left _ (List.mem_of_getElem? (i := 5) rfl))) (gi_sub (fun w h => (List.mem_cons_of_mem _ (List.mem_append_right _ (List.mem_append_right _ (List.mem_append_right _ (List.mem_append_left _ h)))))) zg_k322_X11_goOnFrom)) rfl rfl rfl (by decide +kernel) ⟨Nat.le_of_ble_eq_true rfl, Nat.le_of_ble_eq_true rfl⟩ 0 rfl rfl rfl rfl (Nat.le_of_ble_eq_true rfl) ⟨Nat.le_of_ble_eq_true rfl, Nat.le_of_ble_eq_true rfl⟩ dX11_restore_34 (fun v ty' w' hp hk' => ?_)
          obtain ⟨I10186, A10186, hI10186, hA10186, hV10186, rfl, rfl⟩ := hp
          show GW κ 2 0 0 (wX q d I10186 A10186) 37 [(0, .ref (q 0)), (1, .int 0)] []
          refine g_iconst (v := 1) hk dX11_restore_37 (by decide) ?_
          exact g_iret hk hR rfl ⟨I10186, A10186, (show Md [17, 18, 21] I I10186 from (Md.tr Md.rf hI10186 rfl)), (show Md [7, 10] A A10186 from (Md.tr Md.rf hA10186 rfl)), hV10186, 1, (by decide), (by decide), rfl, rfl⟩ dX11_restore_38
        · skip
          refine g_iconst (v := 0) hk dX11_restore_25 (by decide) ?_
          exact g_iret hk hR rfl ⟨I, A, (show Md [17, 18, 21] I I from Md.rf), (show Md [7, 10] A A from Md.rf), hIv, 0, (by decide), (by decide), rfl, rfl⟩ dX11_restore_26
      by_cases c10187 : z1.toInt = 1
      · have ec10187 : z1 = 1 := Int32.toInt_inj.mp c10187
        rw [ec10187]
        show GW κ 2 0 0 (wX q d I A) 18 [(0, .ref (q 0)), (1, .int 1)] [.int 1, .ref (q 24)]
        refine lX_14 hk (vp_in_iff.mpr ⟨by decide, by decide⟩) rfl dX11_restore_18 ?_
        refine gX_i25 (v := (I 25)) hk hin8 (List.mem_cons_of_mem _ (List.mem_append_left _ (List.mem_of_getElem? (i := 1) rfl))) dX11_restore_19 rfl ?_
        have b10188l := Int32.le_toInt (I 25)
        have b10188h := Int32.toInt_lt (I 25)
        refine g_if_ne (tgt := 27) (a := (I 25).toInt) hk dX11_restore_22 (by decide) rfl (fun c10189 => ?_) (fun c10189 => ?_)
        · skip
          refine g_aload_n hk dX11_restore_27 rfl ?_
          refine g_aload_n hk dX11_restore_28 rfl ?_
          refine gX_r0_6 hk hin11 (List.mem_cons_of_mem _ (List.mem_append_left _ (List.mem_of_getElem? (i := 0) rfl))) dX11_restore_29 ?_
          refine g_iload_n hk dX11_restore_32 rfl ?_
          refine lX_14 hk (vp_in_iff.mpr ⟨by decide, by decide⟩) rfl dX11_restore_33 ?_
          refine g_callV (n := 1) hk (k327_X11_goOnFrom l D zt q d I A  hIv) (SP.same _) (fun _ h => h) (gi_V (List.mem_cons_of_mem _ (List.mem_append_left _ (List.mem_of_getElem? (i := 2) rfl))) (List.mem_cons_of_mem _ (List.mem_append_left _ (List.mem_of_getElem? (i := 3) rfl))) (List.mem_cons_of_mem _ (List.mem_append_left _ (List.mem_of_getElem? (i := 4) rfl))) (List.mem_cons_of_mem _ (List.mem_append_left _ (List.mem_of_getElem? (i := 5) rfl))) (gi_sub (fun w h => (List.mem_cons_of_mem _ (List.mem_append_right _ (List.mem_append_right _ (List.mem_append_right _ (List.mem_append_right _ (List.mem_append_left _ h))))))) zg_k327_X11_goOnFrom)) rfl rfl rfl (by decide +kernel) ⟨Nat.le_of_ble_eq_true rfl, Nat.le_of_ble_eq_true rfl⟩ 0 rfl rfl rfl rfl (Nat.le_of_ble_eq_true rfl) ⟨Nat.le_of_ble_eq_true rfl, Nat.le_of_ble_eq_true rfl⟩ dX11_restore_34 (fun v ty' w' hp hk' => ?_)
          obtain ⟨I10278, A10278, hI10278, hA10278, hV10278, rfl, rfl⟩ := hp
          show GW κ 2 0 0 (wX q d I10278 A10278) 37 [(0, .ref (q 0)), (1, .int 1)] []
          refine g_iconst (v := 1) hk dX11_restore_37 (by decide) ?_
          exact g_iret hk hR rfl ⟨I10278, A10278, (show Md [17, 18, 21] I I10278 from (Md.tr Md.rf hI10278 rfl)), (show Md [7, 10] A A10278 from (Md.tr Md.rf hA10278 rfl)), hV10278, 1, (by decide), (by decide), rfl, rfl⟩ dX11_restore_38
        · skip
          refine g_iconst (v := 0) hk dX11_restore_25 (by decide) ?_
          exact g_iret hk hR rfl ⟨I, A, (show Md [17, 18, 21] I I from Md.rf), (show Md [7, 10] A A from Md.rf), hIv, 0, (by decide), (by decide), rfl, rfl⟩ dX11_restore_26
      by_cases c10279 : z1.toInt = 2
      · have ec10279 : z1 = 2 := Int32.toInt_inj.mp c10279
        rw [ec10279]
        show GW κ 2 0 0 (wX q d I A) 18 [(0, .ref (q 0)), (1, .int 2)] [.int 2, .ref (q 24)]
        refine lX_14 hk (vp_in_iff.mpr ⟨by decide, by decide⟩) rfl dX11_restore_18 ?_
        refine gX_i27 (v := (I 27)) hk hin8 (List.mem_cons_of_mem _ (List.mem_append_left _ (List.mem_of_getElem? (i := 1) rfl))) dX11_restore_19 rfl ?_
        have b10280l := Int32.le_toInt (I 27)
        have b10280h := Int32.toInt_lt (I 27)
        refine g_if_ne (tgt := 27) (a := (I 27).toInt) hk dX11_restore_22 (by decide) rfl (fun c10281 => ?_) (fun c10281 => ?_)
        · skip
          refine g_aload_n hk dX11_restore_27 rfl ?_
          refine g_aload_n hk dX11_restore_28 rfl ?_
          refine gX_r0_6 hk hin11 (List.mem_cons_of_mem _ (List.mem_append_left _ (List.mem_of_getElem? (i := 0) rfl))) dX11_restore_29 ?_
          refine g_iload_n hk dX11_restore_32 rfl ?_
          refine lX_14 hk (vp_in_iff.mpr ⟨by decide, by decide⟩) rfl dX11_restore_33 ?_
          refine g_callV (n := 1) hk (k332_X11_goOnFrom l D zt q d I A  hIv) (SP.same _) (fun _ h => h) (gi_V (List.mem_cons_of_mem _ (List.mem_append_left _ (List.mem_of_getElem? (i := 2) rfl))) (List.mem_cons_of_mem _ (List.mem_append_left _ (List.mem_of_getElem? (i := 3) rfl))) (List.mem_cons_of_mem _ (List.mem_append_left _ (List.mem_of_getElem? (i := 4) rfl))) (List.mem_cons_of_mem _ (List.mem_append_left _ (List.mem_of_getElem? (i := 5) rfl))) (gi_sub (fun w h => (List.mem_cons_of_mem _ (List.mem_append_right _ (List.mem_append_right _ (List.mem_append_right _ (List.mem_append_right _ (List.mem_append_right _ (List.mem_append_left _ h)))))))) zg_k332_X11_goOnFrom)) rfl rfl rfl (by decide +kernel) ⟨Nat.le_of_ble_eq_true rfl, Nat.le_of_ble_eq_true rfl⟩ 0 rfl rfl rfl rfl (Nat.le_of_ble_eq_true rfl) ⟨Nat.le_of_ble_eq_true rfl, Nat.le_of_ble_eq_true rfl⟩ dX11_restore_34 (fun v ty' w' hp hk' => ?_)
          obtain ⟨I10370, A10370, hI10370, hA10370, hV10370, rfl, rfl⟩ := hp
          show GW κ 2 0 0 (wX q d I10370 A10370) 37 [(0, .ref (q 0)), (1, .int 2)] []
          refine g_iconst (v := 1) hk dX11_restore_37 (by decide) ?_
          exact g_iret hk hR rfl ⟨I10370, A10370, (show Md [17, 18, 21] I I10370 from (Md.tr Md.rf hI10370 rfl)), (show Md [7, 10] A A10370 from (Md.tr Md.rf hA10370 rfl)), hV10370, 1, (by decide), (by decide), rfl, rfl⟩ dX11_restore_38
        · skip
          refine g_iconst (v := 0) hk dX11_restore_25 (by decide) ?_
          exact g_iret hk hR rfl ⟨I, A, (show Md [17, 18, 21] I I from Md.rf), (show Md [7, 10] A A from Md.rf), hIv, 0, (by decide), (by decide), rfl, rfl⟩ dX11_restore_26
      exfalso; omega
def wo_k338_X6_gapCount : List Cond := [Cond.fieldLink RX6 19 "WarpDesk$Series" "size" "I", Cond.methodLink RX6 37 yX6_hasReading, Cond.instanceMethod yX6_hasReading, Cond.selects RX6 yX6_hasReading yX6_hasReading, Cond.initialized RX6]
def wz_k338_X6_gapCount : List Cond := .code yX6_gapCount cX6_gapCount 3 (some .int) :: (wo_k338_X6_gapCount ++ (wsX60 ++ (wz_k188_X6_hasReading ++ ([] : List Cond))))
theorem zg_k338_X6_gapCount : ∀ w ∈ wz_k338_X6_gapCount, goodWord w = true := zg_cons rfl (zg_app (by decide +kernel) (zg_app zgU_wsX60 (zg_app zg_k188_X6_hasReading zg_nil)))
theorem zi_k338_X6_gapCount : ∀ w ∈ wz_k338_X6_gapCount, w ∈ lw_tbl := zi_cons zw_1346 (zi_app (zi_cons zw_282 (zi_cons zw_905 (zi_cons zw_840 (zi_cons zw_841 (zi_cons zw_109 zi_nil))))) (zi_app inX6 (zi_app zi_k188_X6_hasReading zi_nil)))
set_option maxHeartbeats 4000000 in
set_option maxRecDepth 100000 in
theorem k338_X6_gapCount (l : Launch) (D : va_G) (zt : Nat × Nat × Nat × (Nat → Nat) × (Nat → Nat)) (q : Nat → Nat) (d : Nat → ClassId) (I : Nat → Int32) (A : Nat → Nat → Int32) (hIv : IvX I A) : GM l D zt (tyX d) yX6_gapCount wz_k338_X6_gapCount ({ frames := 2, cells := 0, slots := 0, locals := 42 } : Room) [.ref (q 13)] (wX q d I A) (fun v _ w' => ∃ y0 : Int32, v = some (.int y0) ∧ w' = wX q d I A) 0 0 := by
  refine GM.of (cc := cX6_gapCount) (maxL := 3) (ret := (some .int)) (own := RX6) (lv := [(0, .ref (q 13))]) (by decide) rfl rfl (Nat.le_of_ble_eq_true rfl) rfl (fun κ sz hk hR hN => ?_)
  have hin6 : ∀ w ∈ u_ws RX6 TX6 3, w ∈ wz_k338_X6_gapCount := fun w h => (List.mem_cons_of_mem _ (List.mem_append_right _ (List.mem_append_left _ h)))
  refine g_iconst (v := 0) hk dX6_gapCount_0 (by decide) ?_
  refine g_istore_n (lv' := [(1, .int 0), (0, .ref (q 13))]) hk dX6_gapCount_1 (by decide) rfl ?_
  refine g_iconst (v := 0) hk dX6_gapCount_2 (by decide) ?_
  refine g_istore_n (lv' := [(2, .int 0), (1, .int 0), (0, .ref (q 13))]) hk dX6_gapCount_3 (by decide) rfl ?_
  have lp10418 : ∀ (n10419 : Nat) (x10374 : Int32) (x10375 : Int32), (0 ≤ x10374.toInt) → (x10374.toInt ≤ 160) → (161 - x10374.toInt < (n10419 : Int)) → (0 < n10419) → GW κ 3 0 0 (wX q d I A) 4 [(2, .int x10374), (1, .int x10375), (0, .ref (q 13))] [] := by
    intro n10419
    induction n10419 with
    | zero =>
      intro x10374 x10375 h10416 h10417 m10420 m10420z
      exact absurd m10420z (Nat.lt_irrefl 0)
    | succ n10419 ih10421 =>
      intro x10374 x10375 h10416 h10417 m10420 m10420z
      refine g_iload_n hk dX6_gapCount_4 rfl ?_
      refine g_aload_n hk dX6_gapCount_5 rfl ?_
      refine gX_i18 (v := (I 18)) hk hin6 (List.mem_cons_of_mem _ (List.mem_append_left _ (List.mem_of_getElem? (i := 0) rfl))) dX6_gapCount_6 rfl ?_
      have f10422 := IvX_f18 hIv
      refine g_icmp_ge (tgt := 29) (a := x10374.toInt) (b := (I 18).toInt) hk dX6_gapCount_9 (by decide) rfl rfl (fun c10423 => ?_) (fun c10423 => ?_)
      · skip
        refine g_iload_n hk dX6_gapCount_29 rfl ?_
        have b10424l := Int32.le_toInt x10375
        have b10424h := Int32.toInt_lt x10375
        exact g_iret hk hR rfl ⟨x10375, rfl, rfl⟩ dX6_gapCount_30
      · skip
        refine g_aload_n hk dX6_gapCount_12 rfl ?_
        refine g_iload_n hk dX6_gapCount_13 rfl ?_
        refine g_callV (n := 1) hk (k188_X6_hasReading l D zt q d I A x10374 hIv) (SP.same _) (fun _ h => h) (gi_V (List.mem_cons_of_mem _ (List.mem_append_left _ (List.mem_of_getElem? (i := 1) rfl))) (List.mem_cons_of_mem _ (List.mem_append_left _ (List.mem_of_getElem? (i := 2) rfl))) (List.mem_cons_of_mem _ (List.mem_append_left _ (List.mem_of_getElem? (i := 3) rfl))) (List.mem_cons_of_mem _ (List.mem_append_left _ (List.mem_of_getElem? (i := 4) rfl))) (gi_sub (fun w h => (List.mem_cons_of_mem _ (List.mem_append_right _ (List.mem_append_right _ (List.mem_append_left _ h))))) zg_k188_X6_hasReading)) rfl rfl rfl (by decide +kernel) ⟨Nat.le_of_ble_eq_true rfl, Nat.le_of_ble_eq_true rfl⟩ 13 rfl rfl rfl rfl (Nat.le_of_ble_eq_true rfl) ⟨Nat.le_of_ble_eq_true rfl, Nat.le_of_ble_eq_true rfl⟩ dX6_gapCount_14 (fun v ty' w' hp hk' => ?_)
        rcases hp with ⟨rfl, rfl⟩ | ⟨rfl, rfl⟩
        · skip
          show GW κ 3 0 0 (wX q d I A) 17 [(2, .int x10374), (1, .int x10375), (0, .ref (q 13))] [.int 0]
          refine g_if_ne (tgt := 23) (a := 0) hk dX6_gapCount_17 (by decide) rfl (fun z9 => absurd z9 (show ¬ ((0 : Int) ≠ (0 : Int)) from by decide)) (fun _ => ?_)
          have b10427l := Int32.le_toInt x10375
          have b10427h := Int32.toInt_lt x10375
          obtain ⟨y10428, ey10428⟩ : ∃ y : Int32, y = x10375 + Int32.ofInt 1 := ⟨_, rfl⟩
          refine g_iinc (v := y10428) (lv' := [(1, .int y10428), (2, .int x10374), (0, .ref (q 13))]) hk 1 dX6_gapCount_20 rfl ey10428.symm (by decide) rfl ?_
          obtain ⟨y10429, ey10429⟩ : ∃ y : Int32, y = x10374 + Int32.ofInt 1 := ⟨_, rfl⟩
          have hy10429 : y10429.toInt = x10374.toInt + 1 := i32_add ey10429 rfl (by decide) (by omega) (by omega)
          refine g_iinc (v := y10429) (lv' := [(2, .int y10429), (1, .int y10428), (0, .ref (q 13))]) hk 1 dX6_gapCount_23 rfl ey10429.symm (by decide) rfl ?_
          refine g_goto (tgt := 4) hk dX6_gapCount_26 (by decide) ?_
          exact g_lv (List.forall_mem_cons.mpr ⟨List.mem_of_getElem? (i := 0) rfl, (List.forall_mem_cons.mpr ⟨List.mem_of_getElem? (i := 1) rfl, (List.forall_mem_cons.mpr ⟨List.mem_of_getElem? (i := 2) rfl, (fun _ h => absurd h List.not_mem_nil)⟩)⟩)⟩) (ih10421 y10429 y10428 (by omega) (by omega) (by omega) (by omega))
        · skip
          show GW κ 3 0 0 (wX q d I A) 17 [(2, .int x10374), (1, .int x10375), (0, .ref (q 13))] [.int 1]
          refine g_if_ne (tgt := 23) (a := 1) hk dX6_gapCount_17 (by decide) rfl (fun _ => ?_) (fun z9 => absurd (show (1 : Int) ≠ (0 : Int) from by decide) z9)
          obtain ⟨y10430, ey10430⟩ : ∃ y : Int32, y = x10374 + Int32.ofInt 1 := ⟨_, rfl⟩
          have hy10430 : y10430.toInt = x10374.toInt + 1 := i32_add ey10430 rfl (by decide) (by omega) (by omega)
          refine g_iinc (v := y10430) (lv' := [(2, .int y10430), (1, .int x10375), (0, .ref (q 13))]) hk 0 dX6_gapCount_23 rfl ey10430.symm (by decide) rfl ?_
          refine g_goto (tgt := 4) hk dX6_gapCount_26 (by decide) ?_
          exact g_lv (List.forall_mem_cons.mpr ⟨List.mem_of_getElem? (i := 0) rfl, (List.forall_mem_cons.mpr ⟨List.mem_of_getElem? (i := 1) rfl, (List.forall_mem_cons.mpr ⟨List.mem_of_getElem? (i := 2) rfl, (fun _ h => absurd h List.not_mem_nil)⟩)⟩)⟩) (ih10421 y10430 x10375 (by omega) (by omega) (by omega) (by omega))
  have k10432 : (0 : Int32).toInt = 0 := rfl
  obtain ⟨n10431, n10431a, n10431b⟩ : ∃ n : Nat, 161 - 0 < (n : Int) ∧ 0 < n := ⟨((161 - 0 : Int)).toNat + 1, by omega, by omega⟩
  exact lp10418 n10431 0 0 (by omega) (by omega) n10431a n10431b
def wo_k339_X6_readingsAtEnd : List Cond := [Cond.fieldLink RX6 19 "WarpDesk$Series" "size" "I", Cond.methodLink RX6 37 yX6_hasReading, Cond.instanceMethod yX6_hasReading, Cond.selects RX6 yX6_hasReading yX6_hasReading, Cond.initialized RX6]
def wz_k339_X6_readingsAtEnd : List Cond := .code yX6_readingsAtEnd cX6_readingsAtEnd 3 (some .int) :: (wo_k339_X6_readingsAtEnd ++ (wsX60 ++ (wz_k188_X6_hasReading ++ ([] : List Cond))))
theorem zg_k339_X6_readingsAtEnd : ∀ w ∈ wz_k339_X6_readingsAtEnd, goodWord w = true := zg_cons rfl (zg_app (by decide +kernel) (zg_app zgU_wsX60 (zg_app zg_k188_X6_hasReading zg_nil)))
theorem zi_k339_X6_readingsAtEnd : ∀ w ∈ wz_k339_X6_readingsAtEnd, w ∈ lw_tbl := zi_cons zw_1350 (zi_app (zi_cons zw_282 (zi_cons zw_905 (zi_cons zw_840 (zi_cons zw_841 (zi_cons zw_109 zi_nil))))) (zi_app inX6 (zi_app zi_k188_X6_hasReading zi_nil)))
set_option maxHeartbeats 4000000 in
set_option maxRecDepth 100000 in
theorem k339_X6_readingsAtEnd (l : Launch) (D : va_G) (zt : Nat × Nat × Nat × (Nat → Nat) × (Nat → Nat)) (q : Nat → Nat) (d : Nat → ClassId) (I : Nat → Int32) (A : Nat → Nat → Int32) (hIv : IvX I A) : GM l D zt (tyX d) yX6_readingsAtEnd wz_k339_X6_readingsAtEnd ({ frames := 2, cells := 0, slots := 0, locals := 42 } : Room) [.ref (q 13)] (wX q d I A) (fun v _ w' => ∃ y0 : Int32, v = some (.int y0) ∧ w' = wX q d I A) 0 0 := by
  refine GM.of (cc := cX6_readingsAtEnd) (maxL := 3) (ret := (some .int)) (own := RX6) (lv := [(0, .ref (q 13))]) (by decide) rfl rfl (Nat.le_of_ble_eq_true rfl) rfl (fun κ sz hk hR hN => ?_)
  have hin6 : ∀ w ∈ u_ws RX6 TX6 3, w ∈ wz_k339_X6_readingsAtEnd := fun w h => (List.mem_cons_of_mem _ (List.mem_append_right _ (List.mem_append_left _ h)))
  refine g_iconst (v := 0) hk dX6_readingsAtEnd_0 (by decide) ?_
  refine g_istore_n (lv' := [(1, .int 0), (0, .ref (q 13))]) hk dX6_readingsAtEnd_1 (by decide) rfl ?_
  refine g_aload_n hk dX6_readingsAtEnd_2 rfl ?_
  refine gX_i18 (v := (I 18)) hk hin6 (List.mem_cons_of_mem _ (List.mem_append_left _ (List.mem_of_getElem? (i := 0) rfl))) dX6_readingsAtEnd_3 rfl ?_
  have f10454 := IvX_f18 hIv
  refine g_iconst (v := 1) hk dX6_readingsAtEnd_6 (by decide) ?_
  refine g_isub hk dX6_readingsAtEnd_7 ?_
  refine g_topi (fun y10455 ey10455 => ?_)
  have hy10455 : y10455.toInt = (I 18).toInt - 1 := i32_sub ey10455 rfl rfl (by omega) (by omega)
  refine g_istore_n (lv' := [(2, .int y10455), (1, .int 0), (0, .ref (q 13))]) hk dX6_readingsAtEnd_8 (by decide) rfl ?_
  have lp10483 : ∀ (n10484 : Nat) (x10456 : Int32) (x10457 : Int32), ((-1) ≤ x10456.toInt) → (x10456.toInt ≤ 159) → (x10456.toInt + 1 - 0 < (n10484 : Int)) → (0 < n10484) → GW κ 3 0 0 (wX q d I A) 9 [(2, .int x10456), (1, .int x10457), (0, .ref (q 13))] [] := by
    intro n10484
    induction n10484 with
    | zero =>
      intro x10456 x10457 h10481 h10482 m10485 m10485z
      exact absurd m10485z (Nat.lt_irrefl 0)
    | succ n10484 ih10486 =>
      intro x10456 x10457 h10481 h10482 m10485 m10485z
      refine g_iload_n hk dX6_readingsAtEnd_9 rfl ?_
      refine g_if_lt (tgt := 30) (a := x10456.toInt) hk dX6_readingsAtEnd_10 (by decide) rfl (fun c10487 => ?_) (fun c10487 => ?_)
      · skip
        refine g_iload_n hk dX6_readingsAtEnd_30 rfl ?_
        have b10488l := Int32.le_toInt x10457
        have b10488h := Int32.toInt_lt x10457
        exact g_iret hk hR rfl ⟨x10457, rfl, rfl⟩ dX6_readingsAtEnd_31
      · skip
        refine g_aload_n hk dX6_readingsAtEnd_13 rfl ?_
        refine g_iload_n hk dX6_readingsAtEnd_14 rfl ?_
        refine g_callV (n := 1) hk (k188_X6_hasReading l D zt q d I A x10456 hIv) (SP.same _) (fun _ h => h) (gi_V (List.mem_cons_of_mem _ (List.mem_append_left _ (List.mem_of_getElem? (i := 1) rfl))) (List.mem_cons_of_mem _ (List.mem_append_left _ (List.mem_of_getElem? (i := 2) rfl))) (List.mem_cons_of_mem _ (List.mem_append_left _ (List.mem_of_getElem? (i := 3) rfl))) (List.mem_cons_of_mem _ (List.mem_append_left _ (List.mem_of_getElem? (i := 4) rfl))) (gi_sub (fun w h => (List.mem_cons_of_mem _ (List.mem_append_right _ (List.mem_append_right _ (List.mem_append_left _ h))))) zg_k188_X6_hasReading)) rfl rfl rfl (by decide +kernel) ⟨Nat.le_of_ble_eq_true rfl, Nat.le_of_ble_eq_true rfl⟩ 13 rfl rfl rfl rfl (Nat.le_of_ble_eq_true rfl) ⟨Nat.le_of_ble_eq_true rfl, Nat.le_of_ble_eq_true rfl⟩ dX6_readingsAtEnd_15 (fun v ty' w' hp hk' => ?_)
        rcases hp with ⟨rfl, rfl⟩ | ⟨rfl, rfl⟩
        · skip
          show GW κ 3 0 0 (wX q d I A) 18 [(2, .int x10456), (1, .int x10457), (0, .ref (q 13))] [.int 0]
          refine g_if_eq (tgt := 30) (a := 0) hk dX6_readingsAtEnd_18 (by decide) rfl (fun _ => ?_) (fun z9 => absurd (show (0 : Int) = (0 : Int) from by decide) z9)
          refine g_iload_n hk dX6_readingsAtEnd_30 rfl ?_
          have b10491l := Int32.le_toInt x10457
          have b10491h := Int32.toInt_lt x10457
          exact g_iret hk hR rfl ⟨x10457, rfl, rfl⟩ dX6_readingsAtEnd_31
        · skip
          show GW κ 3 0 0 (wX q d I A) 18 [(2, .int x10456), (1, .int x10457), (0, .ref (q 13))] [.int 1]
          refine g_if_eq (tgt := 30) (a := 1) hk dX6_readingsAtEnd_18 (by decide) rfl (fun z9 => absurd z9 (show ¬ ((1 : Int) = (0 : Int)) from by decide)) (fun _ => ?_)
          have b10492l := Int32.le_toInt x10457
          have b10492h := Int32.toInt_lt x10457
          obtain ⟨y10493, ey10493⟩ : ∃ y : Int32, y = x10457 + Int32.ofInt 1 := ⟨_, rfl⟩
          refine g_iinc (v := y10493) (lv' := [(1, .int y10493), (2, .int x10456), (0, .ref (q 13))]) hk 1 dX6_readingsAtEnd_21 rfl ey10493.symm (by decide) rfl ?_
          obtain ⟨y10494, ey10494⟩ : ∃ y : Int32, y = x10456 + Int32.ofInt (-1) := ⟨_, rfl⟩
          have hy10494 : y10494.toInt = x10456.toInt + (-1) := i32_add ey10494 rfl (by decide) (by omega) (by omega)
          refine g_iinc (v := y10494) (lv' := [(2, .int y10494), (1, .int y10493), (0, .ref (q 13))]) hk 1 dX6_readingsAtEnd_24 rfl ey10494.symm (by decide) rfl ?_
          refine g_goto (tgt := 9) hk dX6_readingsAtEnd_27 (by decide) ?_
          exact g_lv (List.forall_mem_cons.mpr ⟨List.mem_of_getElem? (i := 0) rfl, (List.forall_mem_cons.mpr ⟨List.mem_of_getElem? (i := 1) rfl, (List.forall_mem_cons.mpr ⟨List.mem_of_getElem? (i := 2) rfl, (fun _ h => absurd h List.not_mem_nil)⟩)⟩)⟩) (ih10486 y10494 y10493 (by omega) (by omega) (by omega) (by omega))
  have k10496 : (0 : Int32).toInt = 0 := rfl
  obtain ⟨n10495, n10495a, n10495b⟩ : ∃ n : Nat, y10455.toInt + 1 - 0 < (n : Int) ∧ 0 < n := ⟨((y10455.toInt + 1 - 0 : Int)).toNat + 1, by omega, by omega⟩
  exact lp10483 n10495 y10455 0 (by omega) (by omega) n10495a n10495b
def wo_k340_X11_slotsHeld : List Cond := [Cond.fieldLink RX11 56 "WarpDesk" "slots" "[LWarpDesk$Stand;", Cond.fieldLink RX11 110 "WarpDesk$Stand" "held" "Z"]
def wz_k340_X11_slotsHeld : List Cond := .code yX11_slotsHeld cX11_slotsHeld 3 (some .int) :: (wo_k340_X11_slotsHeld ++ (wsX80 ++ (wsX110 ++ ([] : List Cond))))
theorem zg_k340_X11_slotsHeld : ∀ w ∈ wz_k340_X11_slotsHeld, goodWord w = true := zg_cons rfl (zg_app (by decide +kernel) (zg_app zgU_wsX80 (zg_app zgU_wsX110 zg_nil)))
theorem zi_k340_X11_slotsHeld : ∀ w ∈ wz_k340_X11_slotsHeld, w ∈ lw_tbl := zi_cons zw_1354 (zi_app (zi_cons zw_493 (zi_cons zw_201 zi_nil)) (zi_app inX8 (zi_app inX11 zi_nil)))
set_option maxHeartbeats 4000000 in
set_option maxRecDepth 100000 in
theorem k340_X11_slotsHeld (l : Launch) (D : va_G) (zt : Nat × Nat × Nat × (Nat → Nat) × (Nat → Nat)) (q : Nat → Nat) (d : Nat → ClassId) (I : Nat → Int32) (A : Nat → Nat → Int32) (hIv : IvX I A) : GM l D zt (tyX d) yX11_slotsHeld wz_k340_X11_slotsHeld ({ frames := 0, cells := 0, slots := 0, locals := 0 } : Room) [.ref (q 0)] (wX q d I A) (fun v _ w' => ∃ y0 : Int32, v = some (.int y0) ∧ w' = wX q d I A) 0 0 := by
  refine GM.of (cc := cX11_slotsHeld) (maxL := 3) (ret := (some .int)) (own := RX11) (lv := [(0, .ref (q 0))]) (by decide) rfl rfl (Nat.le_of_ble_eq_true rfl) rfl (fun κ sz hk hR hN => ?_)
  have hin8 : ∀ w ∈ u_ws RX8 TX8 4, w ∈ wz_k340_X11_slotsHeld := fun w h => (List.mem_cons_of_mem _ (List.mem_append_right _ (List.mem_append_left _ h)))
  have hin11 : ∀ w ∈ u_ws RX11 TX11 10, w ∈ wz_k340_X11_slotsHeld := fun w h => (List.mem_cons_of_mem _ (List.mem_append_right _ (List.mem_append_right _ (List.mem_append_left _ h))))
  refine g_iconst (v := 0) hk dX11_slotsHeld_0 (by decide) ?_
  refine g_istore_n (lv' := [(1, .int 0), (0, .ref (q 0))]) hk dX11_slotsHeld_1 (by decide) rfl ?_
  refine g_iconst (v := 0) hk dX11_slotsHeld_2 (by decide) ?_
  refine g_istore_n (lv' := [(2, .int 0), (1, .int 0), (0, .ref (q 0))]) hk dX11_slotsHeld_3 (by decide) rfl ?_
  have lp10556 : ∀ (n10557 : Nat) (x10509 : Int32) (x10510 : Int32), (0 ≤ x10509.toInt) → (x10509.toInt ≤ 3) → (3 - x10509.toInt < (n10557 : Int)) → (0 < n10557) → GW κ 3 0 0 (wX q d I A) 4 [(2, .int x10509), (1, .int x10510), (0, .ref (q 0))] [] := by
    intro n10557
    induction n10557 with
    | zero =>
      intro x10509 x10510 h10554 h10555 m10558 m10558z
      exact absurd m10558z (Nat.lt_irrefl 0)
    | succ n10557 ih10559 =>
      intro x10509 x10510 h10554 h10555 m10558 m10558z
      refine g_iload_n hk dX11_slotsHeld_4 rfl ?_
      refine g_aload_n hk dX11_slotsHeld_5 rfl ?_
      refine gX_r0_6 hk hin11 (List.mem_cons_of_mem _ (List.mem_append_left _ (List.mem_of_getElem? (i := 0) rfl))) dX11_slotsHeld_6 ?_
      refine nX_14 hk dX11_slotsHeld_9 ?_
      refine g_icmp_ge (tgt := 34) (a := x10509.toInt) (b := 3) hk dX11_slotsHeld_10 (by decide) rfl rfl (fun c10560 => ?_) (fun c10560 => ?_)
      · skip
        refine g_iload_n hk dX11_slotsHeld_34 rfl ?_
        have b10561l := Int32.le_toInt x10510
        have b10561h := Int32.toInt_lt x10510
        exact g_iret hk hR rfl ⟨x10510, rfl, rfl⟩ dX11_slotsHeld_35
      · skip
        refine g_aload_n hk dX11_slotsHeld_13 rfl ?_
        refine gX_r0_6 hk hin11 (List.mem_cons_of_mem _ (List.mem_append_left _ (List.mem_of_getElem? (i := 0) rfl))) dX11_slotsHeld_14 ?_
        refine g_iload_n hk dX11_slotsHeld_17 rfl ?_
        by_cases c10562 : x10509.toInt = 0
        · have ec10562 : x10509 = 0 := Int32.toInt_inj.mp c10562
          rw [ec10562]
          show GW κ 3 0 0 (wX q d I A) 18 [(2, .int 0), (1, .int x10510), (0, .ref (q 0))] [.int 0, .ref (q 24)]
          refine lX_14 hk (vp_in_iff.mpr ⟨by decide, by decide⟩) rfl dX11_slotsHeld_18 ?_
          refine gX_i23 (v := (I 23)) hk hin8 (List.mem_cons_of_mem _ (List.mem_append_left _ (List.mem_of_getElem? (i := 1) rfl))) dX11_slotsHeld_19 rfl ?_
          have b10563l := Int32.le_toInt (I 23)
          have b10563h := Int32.toInt_lt (I 23)
          refine g_if_eq (tgt := 28) (a := (I 23).toInt) hk dX11_slotsHeld_22 (by decide) rfl (fun c10564 => ?_) (fun c10564 => ?_)
          · skip
            refine g_iinc (v := 1) (lv' := [(2, .int 1), (1, .int x10510), (0, .ref (q 0))]) hk 0 dX11_slotsHeld_28 rfl (by decide) (by decide) rfl ?_
            refine g_goto (tgt := 4) hk dX11_slotsHeld_31 (by decide) ?_
            have k10565 : (1 : Int32).toInt = 1 := rfl
            exact g_lv (List.forall_mem_cons.mpr ⟨List.mem_of_getElem? (i := 0) rfl, (List.forall_mem_cons.mpr ⟨List.mem_of_getElem? (i := 1) rfl, (List.forall_mem_cons.mpr ⟨List.mem_of_getElem? (i := 2) rfl, (fun _ h => absurd h List.not_mem_nil)⟩)⟩)⟩) (ih10559 1 x10510 (by omega) (by omega) (by omega) (by omega))
          · skip
            have b10566l := Int32.le_toInt x10510
            have b10566h := Int32.toInt_lt x10510
            obtain ⟨y10567, ey10567⟩ : ∃ y : Int32, y = x10510 + Int32.ofInt 1 := ⟨_, rfl⟩
            refine g_iinc (v := y10567) (lv' := [(1, .int y10567), (2, .int 0), (0, .ref (q 0))]) hk 1 dX11_slotsHeld_25 rfl ey10567.symm (by decide) rfl ?_
            refine g_iinc (v := 1) (lv' := [(2, .int 1), (1, .int y10567), (0, .ref (q 0))]) hk 1 dX11_slotsHeld_28 rfl (by decide) (by decide) rfl ?_
            refine g_goto (tgt := 4) hk dX11_slotsHeld_31 (by decide) ?_
            have k10568 : (1 : Int32).toInt = 1 := rfl
            exact g_lv (List.forall_mem_cons.mpr ⟨List.mem_of_getElem? (i := 0) rfl, (List.forall_mem_cons.mpr ⟨List.mem_of_getElem? (i := 1) rfl, (List.forall_mem_cons.mpr ⟨List.mem_of_getElem? (i := 2) rfl, (fun _ h => absurd h List.not_mem_nil)⟩)⟩)⟩) (ih10559 1 y10567 (by omega) (by omega) (by omega) (by omega))
        by_cases c10569 : x10509.toInt = 1
        · have ec10569 : x10509 = 1 := Int32.toInt_inj.mp c10569
          rw [ec10569]
          show GW κ 3 0 0 (wX q d I A) 18 [(2, .int 1), (1, .int x10510), (0, .ref (q 0))] [.int 1, .ref (q 24)]
          refine lX_14 hk (vp_in_iff.mpr ⟨by decide, by decide⟩) rfl dX11_slotsHeld_18 ?_
          refine gX_i25 (v := (I 25)) hk hin8 (List.mem_cons_of_mem _ (List.mem_append_left _ (List.mem_of_getElem? (i := 1) rfl))) dX11_slotsHeld_19 rfl ?_
          have b10570l := Int32.le_toInt (I 25)
          have b10570h := Int32.toInt_lt (I 25)
          refine g_if_eq (tgt := 28) (a := (I 25).toInt) hk dX11_slotsHeld_22 (by decide) rfl (fun c10571 => ?_) (fun c10571 => ?_)
          · skip
            refine g_iinc (v := 2) (lv' := [(2, .int 2), (1, .int x10510), (0, .ref (q 0))]) hk 0 dX11_slotsHeld_28 rfl (by decide) (by decide) rfl ?_
            refine g_goto (tgt := 4) hk dX11_slotsHeld_31 (by decide) ?_
            have k10572 : (2 : Int32).toInt = 2 := rfl
            exact g_lv (List.forall_mem_cons.mpr ⟨List.mem_of_getElem? (i := 0) rfl, (List.forall_mem_cons.mpr ⟨List.mem_of_getElem? (i := 1) rfl, (List.forall_mem_cons.mpr ⟨List.mem_of_getElem? (i := 2) rfl, (fun _ h => absurd h List.not_mem_nil)⟩)⟩)⟩) (ih10559 2 x10510 (by omega) (by omega) (by omega) (by omega))
          · skip
            have b10573l := Int32.le_toInt x10510
            have b10573h := Int32.toInt_lt x10510
            obtain ⟨y10574, ey10574⟩ : ∃ y : Int32, y = x10510 + Int32.ofInt 1 := ⟨_, rfl⟩
            refine g_iinc (v := y10574) (lv' := [(1, .int y10574), (2, .int 1), (0, .ref (q 0))]) hk 1 dX11_slotsHeld_25 rfl ey10574.symm (by decide) rfl ?_
            refine g_iinc (v := 2) (lv' := [(2, .int 2), (1, .int y10574), (0, .ref (q 0))]) hk 1 dX11_slotsHeld_28 rfl (by decide) (by decide) rfl ?_
            refine g_goto (tgt := 4) hk dX11_slotsHeld_31 (by decide) ?_
            have k10575 : (2 : Int32).toInt = 2 := rfl
            exact g_lv (List.forall_mem_cons.mpr ⟨List.mem_of_getElem? (i := 0) rfl, (List.forall_mem_cons.mpr ⟨List.mem_of_getElem? (i := 1) rfl, (List.forall_mem_cons.mpr ⟨List.mem_of_getElem? (i := 2) rfl, (fun _ h => absurd h List.not_mem_nil)⟩)⟩)⟩) (ih10559 2 y10574 (by omega) (by omega) (by omega) (by omega))
        by_cases c10576 : x10509.toInt = 2
        · have ec10576 : x10509 = 2 := Int32.toInt_inj.mp c10576
          rw [ec10576]
          show GW κ 3 0 0 (wX q d I A) 18 [(2, .int 2), (1, .int x10510), (0, .ref (q 0))] [.int 2, .ref (q 24)]
          refine lX_14 hk (vp_in_iff.mpr ⟨by decide, by decide⟩) rfl dX11_slotsHeld_18 ?_
          refine gX_i27 (v := (I 27)) hk hin8 (List.mem_cons_of_mem _ (List.mem_append_left _ (List.mem_of_getElem? (i := 1) rfl))) dX11_slotsHeld_19 rfl ?_
          have b10577l := Int32.le_toInt (I 27)
          have b10577h := Int32.toInt_lt (I 27)
          refine g_if_eq (tgt := 28) (a := (I 27).toInt) hk dX11_slotsHeld_22 (by decide) rfl (fun c10578 => ?_) (fun c10578 => ?_)
          · skip
            refine g_iinc (v := 3) (lv' := [(2, .int 3), (1, .int x10510), (0, .ref (q 0))]) hk 0 dX11_slotsHeld_28 rfl (by decide) (by decide) rfl ?_
            refine g_goto (tgt := 4) hk dX11_slotsHeld_31 (by decide) ?_
            have k10579 : (3 : Int32).toInt = 3 := rfl
            exact g_lv (List.forall_mem_cons.mpr ⟨List.mem_of_getElem? (i := 0) rfl, (List.forall_mem_cons.mpr ⟨List.mem_of_getElem? (i := 1) rfl, (List.forall_mem_cons.mpr ⟨List.mem_of_getElem? (i := 2) rfl, (fun _ h => absurd h List.not_mem_nil)⟩)⟩)⟩) (ih10559 3 x10510 (by omega) (by omega) (by omega) (by omega))
          · skip
            have b10580l := Int32.le_toInt x10510
            have b10580h := Int32.toInt_lt x10510
            obtain ⟨y10581, ey10581⟩ : ∃ y : Int32, y = x10510 + Int32.ofInt 1 := ⟨_, rfl⟩
            refine g_iinc (v := y10581) (lv' := [(1, .int y10581), (2, .int 2), (0, .ref (q 0))]) hk 1 dX11_slotsHeld_25 rfl ey10581.symm (by decide) rfl ?_
            refine g_iinc (v := 3) (lv' := [(2, .int 3), (1, .int y10581), (0, .ref (q 0))]) hk 1 dX11_slotsHeld_28 rfl (by decide) (by decide) rfl ?_
            refine g_goto (tgt := 4) hk dX11_slotsHeld_31 (by decide) ?_
            have k10582 : (3 : Int32).toInt = 3 := rfl
            exact g_lv (List.forall_mem_cons.mpr ⟨List.mem_of_getElem? (i := 0) rfl, (List.forall_mem_cons.mpr ⟨List.mem_of_getElem? (i := 1) rfl, (List.forall_mem_cons.mpr ⟨List.mem_of_getElem? (i := 2) rfl, (fun _ h => absurd h List.not_mem_nil)⟩)⟩)⟩) (ih10559 3 y10581 (by omega) (by omega) (by omega) (by omega))
        exfalso; omega
  have k10584 : (0 : Int32).toInt = 0 := rfl
  obtain ⟨n10583, n10583a, n10583b⟩ : ∃ n : Nat, 3 - 0 < (n : Int) ∧ 0 < n := ⟨((3 - 0 : Int)).toNat + 1, by omega, by omega⟩
  exact lp10556 n10583 0 0 (by omega) (by omega) n10583a n10583b
