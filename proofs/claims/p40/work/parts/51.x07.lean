def wo_k304_X11_odd : List Cond := [Cond.methodLink RX11 196 yX11_isStretch, Cond.static yX11_isStretch, Cond.initialized RX11, Cond.fieldLink RX11 81 "WarpDesk" "stretches" "LWarpDesk$Stretches;", Cond.methodLink RX11 344 yX9_findOdd, Cond.instanceMethod yX9_findOdd, Cond.selects RX9 yX9_findOdd yX9_findOdd, Cond.initialized RX9, Cond.fieldLink RX11 350 "WarpDesk$Stretches" "oddDistance" "I", Cond.fieldLink RX11 347 "WarpDesk$Stretches" "oddWindow" "I"]
def wz_k304_X11_odd : List Cond := .code yX11_odd cX11_odd 3 (some .int) :: (wo_k304_X11_odd ++ (wsX90 ++ (wsX110 ++ (wz_k212_X11_isStretch ++ (wz_k305_X9_findOdd ++ ([] : List Cond))))))
theorem zg_k304_X11_odd : ∀ w ∈ wz_k304_X11_odd, goodWord w = true := zg_cons rfl (zg_app (by decide +kernel) (zg_app zgU_wsX90 (zg_app zgU_wsX110 (zg_app zg_k212_X11_isStretch (zg_app zg_k305_X9_findOdd zg_nil)))))
theorem zi_k304_X11_odd : ∀ w ∈ wz_k304_X11_odd, w ∈ lw_tbl := zi_cons zw_1300 (zi_app (zi_cons zw_926 (zi_cons zw_927 (zi_cons zw_103 (zi_cons zw_496 (zi_cons zw_1301 (zi_cons zw_1302 (zi_cons zw_1303 (zi_cons zw_114 (zi_cons zw_463 (zi_cons zw_461 zi_nil)))))))))) (zi_app inX9 (zi_app inX11 (zi_app zi_k212_X11_isStretch (zi_app zi_k305_X9_findOdd zi_nil)))))
set_option maxHeartbeats 4000000 in
set_option maxRecDepth 100000 in
theorem k304_X11_odd (l : Launch) (D : va_G) (zt : Nat × Nat × Nat × (Nat → Nat) × (Nat → Nat)) (q : Nat → Nat) (d : Nat → ClassId) (I : Nat → Int32) (A : Nat → Nat → Int32) (z1 : Int32) (z2 : Int32) (hIv : IvX I A) : GM l D zt (tyX d) yX11_odd wz_k304_X11_odd ({ frames := 6, cells := 0, slots := 0, locals := 140 } : Room) [.ref (q 0), .int z1, .int z2] (wX q d I A) (fun v _ w' => ∃ (I' : Nat → Int32) (A' : Nat → Nat → Int32), Md [28, 30, 31, 32, 33, 34, 38, 39, 43, 44] I I' ∧ Md [21, 22, 23, 30, 31] A A' ∧ IvX I' A' ∧ ∃ y0 : Int32, v = some (.int y0) ∧ w' = wX q d I' A') 0 0 := by
  refine GM.of (cc := cX11_odd) (maxL := 3) (ret := (some .int)) (own := RX11) (lv := [(0, .ref (q 0)), (1, .int z1), (2, .int z2)]) (by decide) rfl rfl (Nat.le_of_ble_eq_true rfl) rfl (fun κ sz hk hR hN => ?_)
  have hin9 : ∀ w ∈ u_ws RX9 TX9 11, w ∈ wz_k304_X11_odd := fun w h => (List.mem_cons_of_mem _ (List.mem_append_right _ (List.mem_append_left _ h)))
  have hin11 : ∀ w ∈ u_ws RX11 TX11 10, w ∈ wz_k304_X11_odd := fun w h => (List.mem_cons_of_mem _ (List.mem_append_right _ (List.mem_append_right _ (List.mem_append_left _ h))))
  refine g_iload_n hk dX11_odd_0 rfl ?_
  refine g_callS (n := 1) hk (k212_X11_isStretch l D zt q d I A z1 hIv) (SP.same _) (fun _ h => h) (gi_S (List.mem_cons_of_mem _ (List.mem_append_left _ (List.mem_of_getElem? (i := 0) rfl))) (List.mem_cons_of_mem _ (List.mem_append_left _ (List.mem_of_getElem? (i := 1) rfl))) (List.mem_cons_of_mem _ (List.mem_append_left _ (List.mem_of_getElem? (i := 2) rfl))) (gi_sub (fun w h => (List.mem_cons_of_mem _ (List.mem_append_right _ (List.mem_append_right _ (List.mem_append_right _ (List.mem_append_left _ h)))))) zg_k212_X11_isStretch)) rfl rfl rfl (by decide +kernel) ⟨Nat.le_of_ble_eq_true rfl, Nat.le_of_ble_eq_true rfl⟩ rfl rfl (Nat.le_of_ble_eq_true rfl) ⟨Nat.le_of_ble_eq_true rfl, Nat.le_of_ble_eq_true rfl⟩ dX11_odd_1 (fun v ty' w' hp hk' => ?_)
  rcases hp with ⟨rfl, rfl⟩ | ⟨c9415, c9416, c9417, c9418, rfl, rfl⟩
  · skip
    show GW κ 3 0 0 (wX q d I A) 4 [(0, .ref (q 0)), (1, .int z1), (2, .int z2)] [.int 0]
    refine g_if_eq (tgt := 16) (a := 0) hk dX11_odd_4 (by decide) rfl (fun _ => ?_) (fun z9 => absurd (show (0 : Int) = (0 : Int) from by decide) z9)
    refine g_iconst (v := (-1)) hk dX11_odd_16 (by decide) ?_
    exact g_iret hk hR rfl ⟨I, A, (show Md [28, 30, 31, 32, 33, 34, 38, 39, 43, 44] I I from Md.rf), (show Md [21, 22, 23, 30, 31] A A from Md.rf), hIv, (-1), rfl, rfl⟩ dX11_odd_17
  · skip
    show GW κ 3 0 0 (wX q d I A) 4 [(0, .ref (q 0)), (1, .int z1), (2, .int z2)] [.int 1]
    refine g_if_eq (tgt := 16) (a := 1) hk dX11_odd_4 (by decide) rfl (fun z9 => absurd z9 (show ¬ ((1 : Int) = (0 : Int)) from by decide)) (fun _ => ?_)
    refine g_iload_n hk dX11_odd_7 rfl ?_
    have b9420l := Int32.le_toInt z2
    have b9420h := Int32.toInt_lt z2
    refine g_if_lt (tgt := 16) (a := z2.toInt) hk dX11_odd_8 (by decide) rfl (fun c9421 => ?_) (fun c9421 => ?_)
    · skip
      refine g_iconst (v := (-1)) hk dX11_odd_16 (by decide) ?_
      exact g_iret hk hR rfl ⟨I, A, (show Md [28, 30, 31, 32, 33, 34, 38, 39, 43, 44] I I from Md.rf), (show Md [21, 22, 23, 30, 31] A A from Md.rf), hIv, (-1), rfl, rfl⟩ dX11_odd_17
    · skip
      refine g_iload_n hk dX11_odd_11 rfl ?_
      refine g_iconst (v := 1) hk dX11_odd_12 (by decide) ?_
      refine g_icmp_le (tgt := 18) (a := z2.toInt) (b := 1) hk dX11_odd_13 (by decide) rfl rfl (fun c9422 => ?_) (fun c9422 => ?_)
      · skip
        refine g_aload_n hk dX11_odd_18 rfl ?_
        refine gX_r0_9 hk hin11 (List.mem_cons_of_mem _ (List.mem_append_left _ (List.mem_of_getElem? (i := 3) rfl))) dX11_odd_19 ?_
        refine g_iload_n hk dX11_odd_22 rfl ?_
        refine g_callV (n := 1) hk (k305_X9_findOdd l D zt q d I A z1 hIv) (SP.same _) (fun _ h => h) (gi_V (List.mem_cons_of_mem _ (List.mem_append_left _ (List.mem_of_getElem? (i := 4) rfl))) (List.mem_cons_of_mem _ (List.mem_append_left _ (List.mem_of_getElem? (i := 5) rfl))) (List.mem_cons_of_mem _ (List.mem_append_left _ (List.mem_of_getElem? (i := 6) rfl))) (List.mem_cons_of_mem _ (List.mem_append_left _ (List.mem_of_getElem? (i := 7) rfl))) (gi_sub (fun w h => (List.mem_cons_of_mem _ (List.mem_append_right _ (List.mem_append_right _ (List.mem_append_right _ (List.mem_append_right _ (List.mem_append_left _ h))))))) zg_k305_X9_findOdd)) rfl rfl rfl (by decide +kernel) ⟨Nat.le_of_ble_eq_true rfl, Nat.le_of_ble_eq_true rfl⟩ 49 rfl rfl rfl rfl (Nat.le_of_ble_eq_true rfl) ⟨Nat.le_of_ble_eq_true rfl, Nat.le_of_ble_eq_true rfl⟩ dX11_odd_23 (fun v ty' w' hp hk' => ?_)
        obtain ⟨I9504, A9504, hI9504, hA9504, hV9504, rfl, rfl⟩ := hp
        show GW κ 3 0 0 (wX q d I9504 A9504) 26 [(0, .ref (q 0)), (1, .int z1), (2, .int z2)] []
        refine g_iload_n hk dX11_odd_26 rfl ?_
        refine g_if_ne (tgt := 40) (a := z2.toInt) hk dX11_odd_27 (by decide) rfl (fun c9505 => ?_) (fun c9505 => ?_)
        · skip
          refine g_aload_n hk dX11_odd_40 rfl ?_
          refine gX_r0_9 hk hin11 (List.mem_cons_of_mem _ (List.mem_append_left _ (List.mem_of_getElem? (i := 3) rfl))) dX11_odd_41 ?_
          refine gX_i44 (v := (I9504 44)) hk hin9 (List.mem_cons_of_mem _ (List.mem_append_left _ (List.mem_of_getElem? (i := 8) rfl))) dX11_odd_44 rfl ?_
          have b9506l := Int32.le_toInt (I9504 44)
          have b9506h := Int32.toInt_lt (I9504 44)
          exact g_iret hk hR rfl ⟨I9504, A9504, (show Md [28, 30, 31, 32, 33, 34, 38, 39, 43, 44] I I9504 from (Md.tr Md.rf hI9504 rfl)), (show Md [21, 22, 23, 30, 31] A A9504 from (Md.tr Md.rf hA9504 rfl)), hV9504, (I9504 44), rfl, rfl⟩ dX11_odd_47
        · skip
          refine g_aload_n hk dX11_odd_30 rfl ?_
          refine gX_r0_9 hk hin11 (List.mem_cons_of_mem _ (List.mem_append_left _ (List.mem_of_getElem? (i := 3) rfl))) dX11_odd_31 ?_
          refine gX_i43 (v := (I9504 43)) hk hin9 (List.mem_cons_of_mem _ (List.mem_append_left _ (List.mem_of_getElem? (i := 9) rfl))) dX11_odd_34 rfl ?_
          refine g_goto (tgt := 47) hk dX11_odd_37 (by decide) ?_
          have b9507l := Int32.le_toInt (I9504 43)
          have b9507h := Int32.toInt_lt (I9504 43)
          exact g_iret hk hR rfl ⟨I9504, A9504, (show Md [28, 30, 31, 32, 33, 34, 38, 39, 43, 44] I I9504 from (Md.tr Md.rf hI9504 rfl)), (show Md [21, 22, 23, 30, 31] A A9504 from (Md.tr Md.rf hA9504 rfl)), hV9504, (I9504 43), rfl, rfl⟩ dX11_odd_47
      · skip
        refine g_iconst (v := (-1)) hk dX11_odd_16 (by decide) ?_
        exact g_iret hk hR rfl ⟨I, A, (show Md [28, 30, 31, 32, 33, 34, 38, 39, 43, 44] I I from Md.rf), (show Md [21, 22, 23, 30, 31] A A from Md.rf), hIv, (-1), rfl, rfl⟩ dX11_odd_17
def wo_k307_X6_flatWindows : List Cond := [Cond.fieldLink RX6 19 "WarpDesk$Series" "size" "I", Cond.methodLink RX6 37 yX6_hasReading, Cond.instanceMethod yX6_hasReading, Cond.selects RX6 yX6_hasReading yX6_hasReading, Cond.initialized RX6, Cond.methodLink RX6 33 yX6_valueAt, Cond.instanceMethod yX6_valueAt, Cond.selects RX6 yX6_valueAt yX6_valueAt]
def wz_k307_X6_flatWindows : List Cond := .code yX6_flatWindows cX6_flatWindows 5 (some .int) :: (wo_k307_X6_flatWindows ++ (wsX60 ++ (wz_k188_X6_hasReading ++ (wz_k179_X6_valueAt ++ ([] : List Cond)))))
theorem zg_k307_X6_flatWindows : ∀ w ∈ wz_k307_X6_flatWindows, goodWord w = true := zg_cons rfl (zg_app (by decide +kernel) (zg_app zgU_wsX60 (zg_app zg_k188_X6_hasReading (zg_app zg_k179_X6_valueAt zg_nil))))
theorem zi_k307_X6_flatWindows : ∀ w ∈ wz_k307_X6_flatWindows, w ∈ lw_tbl := zi_cons zw_1312 (zi_app (zi_cons zw_282 (zi_cons zw_905 (zi_cons zw_840 (zi_cons zw_841 (zi_cons zw_109 (zi_cons zw_843 (zi_cons zw_807 (zi_cons zw_808 zi_nil)))))))) (zi_app inX6 (zi_app zi_k188_X6_hasReading (zi_app zi_k179_X6_valueAt zi_nil))))
set_option maxHeartbeats 4000000 in
set_option maxRecDepth 100000 in
theorem k307_X6_flatWindows (l : Launch) (D : va_G) (zt : Nat × Nat × Nat × (Nat → Nat) × (Nat → Nat)) (q : Nat → Nat) (d : Nat → ClassId) (I : Nat → Int32) (A : Nat → Nat → Int32) (z1 : Int32) (hIv : IvX I A) : GM l D zt (tyX d) yX6_flatWindows wz_k307_X6_flatWindows ({ frames := 2, cells := 0, slots := 0, locals := 42 } : Room) [.ref (q 13), .int z1] (wX q d I A) (fun v _ w' => ∃ y0 : Int32, v = some (.int y0) ∧ w' = wX q d I A) 0 0 := by
  refine GM.of (cc := cX6_flatWindows) (maxL := 5) (ret := (some .int)) (own := RX6) (lv := [(0, .ref (q 13)), (1, .int z1)]) (by decide) rfl rfl (Nat.le_of_ble_eq_true rfl) rfl (fun κ sz hk hR hN => ?_)
  have hin6 : ∀ w ∈ u_ws RX6 TX6 3, w ∈ wz_k307_X6_flatWindows := fun w h => (List.mem_cons_of_mem _ (List.mem_append_right _ (List.mem_append_left _ h)))
  refine g_iconst (v := 0) hk dX6_flatWindows_0 (by decide) ?_
  refine g_istore_n (lv' := [(2, .int 0), (0, .ref (q 13)), (1, .int z1)]) hk dX6_flatWindows_1 (by decide) rfl ?_
  refine g_iconst (v := 0) hk dX6_flatWindows_2 (by decide) ?_
  refine g_istore_n (lv' := [(3, .int 0), (2, .int 0), (0, .ref (q 13)), (1, .int z1)]) hk dX6_flatWindows_3 (by decide) rfl ?_
  refine g_iconst (v := 0) hk dX6_flatWindows_4 (by decide) ?_
  refine g_istore (lv' := [(4, .int 0), (3, .int 0), (2, .int 0), (0, .ref (q 13)), (1, .int z1)]) hk dX6_flatWindows_5 (by decide) rfl ?_
  have lp9676 : ∀ (n9677 : Nat) (x9511 : Int32) (x9512 : Int32) (x9513 : Int32), (0 ≤ x9511.toInt) → (x9511.toInt ≤ 160) → (161 - x9511.toInt < (n9677 : Int)) → (0 < n9677) → GW κ 5 0 0 (wX q d I A) 7 [(4, .int x9511), (3, .int x9512), (2, .int x9513), (0, .ref (q 13)), (1, .int z1)] [] := by
    intro n9677
    induction n9677 with
    | zero =>
      intro x9511 x9512 x9513 h9674 h9675 m9678 m9678z
      exact absurd m9678z (Nat.lt_irrefl 0)
    | succ n9677 ih9679 =>
      intro x9511 x9512 x9513 h9674 h9675 m9678 m9678z
      refine g_iload hk dX6_flatWindows_7 rfl ?_
      refine g_aload_n hk dX6_flatWindows_9 rfl ?_
      refine gX_i18 (v := (I 18)) hk hin6 (List.mem_cons_of_mem _ (List.mem_append_left _ (List.mem_of_getElem? (i := 0) rfl))) dX6_flatWindows_10 rfl ?_
      have f9680 := IvX_f18 hIv
      refine g_icmp_ge (tgt := 73) (a := x9511.toInt) (b := (I 18).toInt) hk dX6_flatWindows_13 (by decide) rfl rfl (fun c9681 => ?_) (fun c9681 => ?_)
      · skip
        refine g_iload_n hk dX6_flatWindows_73 rfl ?_
        have b9682l := Int32.le_toInt x9513
        have b9682h := Int32.toInt_lt x9513
        exact g_iret hk hR rfl ⟨x9513, rfl, rfl⟩ dX6_flatWindows_74
      · skip
        refine g_aload_n hk dX6_flatWindows_16 rfl ?_
        refine g_iload hk dX6_flatWindows_17 rfl ?_
        refine g_callV (n := 1) hk (k188_X6_hasReading l D zt q d I A x9511 hIv) (SP.same _) (fun _ h => h) (gi_V (List.mem_cons_of_mem _ (List.mem_append_left _ (List.mem_of_getElem? (i := 1) rfl))) (List.mem_cons_of_mem _ (List.mem_append_left _ (List.mem_of_getElem? (i := 2) rfl))) (List.mem_cons_of_mem _ (List.mem_append_left _ (List.mem_of_getElem? (i := 3) rfl))) (List.mem_cons_of_mem _ (List.mem_append_left _ (List.mem_of_getElem? (i := 4) rfl))) (gi_sub (fun w h => (List.mem_cons_of_mem _ (List.mem_append_right _ (List.mem_append_right _ (List.mem_append_left _ h))))) zg_k188_X6_hasReading)) rfl rfl rfl (by decide +kernel) ⟨Nat.le_of_ble_eq_true rfl, Nat.le_of_ble_eq_true rfl⟩ 13 rfl rfl rfl rfl (Nat.le_of_ble_eq_true rfl) ⟨Nat.le_of_ble_eq_true rfl, Nat.le_of_ble_eq_true rfl⟩ dX6_flatWindows_19 (fun v ty' w' hp hk' => ?_)
        rcases hp with ⟨rfl, rfl⟩ | ⟨rfl, rfl⟩
        · skip
          show GW κ 5 0 0 (wX q d I A) 22 [(4, .int x9511), (3, .int x9512), (2, .int x9513), (0, .ref (q 13)), (1, .int z1)] [.int 0]
          refine g_if_ne (tgt := 30) (a := 0) hk dX6_flatWindows_22 (by decide) rfl (fun z9 => absurd z9 (show ¬ ((0 : Int) ≠ (0 : Int)) from by decide)) (fun _ => ?_)
          refine g_iconst (v := 0) hk dX6_flatWindows_25 (by decide) ?_
          refine g_istore_n (lv' := [(3, .int 0), (4, .int x9511), (2, .int x9513), (0, .ref (q 13)), (1, .int z1)]) hk dX6_flatWindows_26 (by decide) rfl ?_
          refine g_goto (tgt := 59) hk dX6_flatWindows_27 (by decide) ?_
          refine g_iload_n hk dX6_flatWindows_59 rfl ?_
          refine g_iload_n hk dX6_flatWindows_60 rfl ?_
          have b9685l := Int32.le_toInt z1
          have b9685h := Int32.toInt_lt z1
          refine g_icmp_lt (tgt := 67) (a := 0) (b := z1.toInt) hk dX6_flatWindows_61 (by decide) rfl rfl (fun c9686 => ?_) (fun c9686 => ?_)
          · skip
            obtain ⟨y9687, ey9687⟩ : ∃ y : Int32, y = x9511 + Int32.ofInt 1 := ⟨_, rfl⟩
            have hy9687 : y9687.toInt = x9511.toInt + 1 := i32_add ey9687 rfl (by decide) (by omega) (by omega)
            refine g_iinc (v := y9687) (lv' := [(4, .int y9687), (3, .int 0), (2, .int x9513), (0, .ref (q 13)), (1, .int z1)]) hk 1 dX6_flatWindows_67 rfl ey9687.symm (by decide) rfl ?_
            refine g_goto (tgt := 7) hk dX6_flatWindows_70 (by decide) ?_
            have k9688 : (0 : Int32).toInt = 0 := rfl
            exact g_lv (List.forall_mem_cons.mpr ⟨List.mem_of_getElem? (i := 0) rfl, (List.forall_mem_cons.mpr ⟨List.mem_of_getElem? (i := 1) rfl, (List.forall_mem_cons.mpr ⟨List.mem_of_getElem? (i := 2) rfl, (List.forall_mem_cons.mpr ⟨List.mem_of_getElem? (i := 3) rfl, (List.forall_mem_cons.mpr ⟨List.mem_of_getElem? (i := 4) rfl, (fun _ h => absurd h List.not_mem_nil)⟩)⟩)⟩)⟩)⟩) (ih9679 y9687 0 x9513 (by omega) (by omega) (by omega) (by omega))
          · skip
            have b9689l := Int32.le_toInt x9513
            have b9689h := Int32.toInt_lt x9513
            obtain ⟨y9690, ey9690⟩ : ∃ y : Int32, y = x9513 + Int32.ofInt 1 := ⟨_, rfl⟩
            refine g_iinc (v := y9690) (lv' := [(2, .int y9690), (3, .int 0), (4, .int x9511), (0, .ref (q 13)), (1, .int z1)]) hk 2 dX6_flatWindows_64 rfl ey9690.symm (by decide) rfl ?_
            obtain ⟨y9691, ey9691⟩ : ∃ y : Int32, y = x9511 + Int32.ofInt 1 := ⟨_, rfl⟩
            have hy9691 : y9691.toInt = x9511.toInt + 1 := i32_add ey9691 rfl (by decide) (by omega) (by omega)
            refine g_iinc (v := y9691) (lv' := [(4, .int y9691), (2, .int y9690), (3, .int 0), (0, .ref (q 13)), (1, .int z1)]) hk 2 dX6_flatWindows_67 rfl ey9691.symm (by decide) rfl ?_
            refine g_goto (tgt := 7) hk dX6_flatWindows_70 (by decide) ?_
            have k9692 : (0 : Int32).toInt = 0 := rfl
            exact g_lv (List.forall_mem_cons.mpr ⟨List.mem_of_getElem? (i := 0) rfl, (List.forall_mem_cons.mpr ⟨List.mem_of_getElem? (i := 2) rfl, (List.forall_mem_cons.mpr ⟨List.mem_of_getElem? (i := 1) rfl, (List.forall_mem_cons.mpr ⟨List.mem_of_getElem? (i := 3) rfl, (List.forall_mem_cons.mpr ⟨List.mem_of_getElem? (i := 4) rfl, (fun _ h => absurd h List.not_mem_nil)⟩)⟩)⟩)⟩)⟩) (ih9679 y9691 0 y9690 (by omega) (by omega) (by omega) (by omega))
        · skip
          show GW κ 5 0 0 (wX q d I A) 22 [(4, .int x9511), (3, .int x9512), (2, .int x9513), (0, .ref (q 13)), (1, .int z1)] [.int 1]
          refine g_if_ne (tgt := 30) (a := 1) hk dX6_flatWindows_22 (by decide) rfl (fun _ => ?_) (fun z9 => absurd (show (1 : Int) ≠ (0 : Int) from by decide) z9)
          refine g_iload_n hk dX6_flatWindows_30 rfl ?_
          have b9693l := Int32.le_toInt x9512
          have b9693h := Int32.toInt_lt x9512
          refine g_if_le (tgt := 57) (a := x9512.toInt) hk dX6_flatWindows_31 (by decide) rfl (fun c9694 => ?_) (fun c9694 => ?_)
          · skip
            refine g_iconst (v := 1) hk dX6_flatWindows_57 (by decide) ?_
            refine g_istore_n (lv' := [(3, .int 1), (4, .int x9511), (2, .int x9513), (0, .ref (q 13)), (1, .int z1)]) hk dX6_flatWindows_58 (by decide) rfl ?_
            refine g_iload_n hk dX6_flatWindows_59 rfl ?_
            refine g_iload_n hk dX6_flatWindows_60 rfl ?_
            have b9695l := Int32.le_toInt z1
            have b9695h := Int32.toInt_lt z1
            refine g_icmp_lt (tgt := 67) (a := 1) (b := z1.toInt) hk dX6_flatWindows_61 (by decide) rfl rfl (fun c9696 => ?_) (fun c9696 => ?_)
            · skip
              obtain ⟨y9697, ey9697⟩ : ∃ y : Int32, y = x9511 + Int32.ofInt 1 := ⟨_, rfl⟩
              have hy9697 : y9697.toInt = x9511.toInt + 1 := i32_add ey9697 rfl (by decide) (by omega) (by omega)
              refine g_iinc (v := y9697) (lv' := [(4, .int y9697), (3, .int 1), (2, .int x9513), (0, .ref (q 13)), (1, .int z1)]) hk 1 dX6_flatWindows_67 rfl ey9697.symm (by decide) rfl ?_
              refine g_goto (tgt := 7) hk dX6_flatWindows_70 (by decide) ?_
              have k9698 : (1 : Int32).toInt = 1 := rfl
              exact g_lv (List.forall_mem_cons.mpr ⟨List.mem_of_getElem? (i := 0) rfl, (List.forall_mem_cons.mpr ⟨List.mem_of_getElem? (i := 1) rfl, (List.forall_mem_cons.mpr ⟨List.mem_of_getElem? (i := 2) rfl, (List.forall_mem_cons.mpr ⟨List.mem_of_getElem? (i := 3) rfl, (List.forall_mem_cons.mpr ⟨List.mem_of_getElem? (i := 4) rfl, (fun _ h => absurd h List.not_mem_nil)⟩)⟩)⟩)⟩)⟩) (ih9679 y9697 1 x9513 (by omega) (by omega) (by omega) (by omega))
            · skip
              have b9699l := Int32.le_toInt x9513
              have b9699h := Int32.toInt_lt x9513
              obtain ⟨y9700, ey9700⟩ : ∃ y : Int32, y = x9513 + Int32.ofInt 1 := ⟨_, rfl⟩
              refine g_iinc (v := y9700) (lv' := [(2, .int y9700), (3, .int 1), (4, .int x9511), (0, .ref (q 13)), (1, .int z1)]) hk 2 dX6_flatWindows_64 rfl ey9700.symm (by decide) rfl ?_
              obtain ⟨y9701, ey9701⟩ : ∃ y : Int32, y = x9511 + Int32.ofInt 1 := ⟨_, rfl⟩
              have hy9701 : y9701.toInt = x9511.toInt + 1 := i32_add ey9701 rfl (by decide) (by omega) (by omega)
              refine g_iinc (v := y9701) (lv' := [(4, .int y9701), (2, .int y9700), (3, .int 1), (0, .ref (q 13)), (1, .int z1)]) hk 2 dX6_flatWindows_67 rfl ey9701.symm (by decide) rfl ?_
              refine g_goto (tgt := 7) hk dX6_flatWindows_70 (by decide) ?_
              have k9702 : (1 : Int32).toInt = 1 := rfl
              exact g_lv (List.forall_mem_cons.mpr ⟨List.mem_of_getElem? (i := 0) rfl, (List.forall_mem_cons.mpr ⟨List.mem_of_getElem? (i := 2) rfl, (List.forall_mem_cons.mpr ⟨List.mem_of_getElem? (i := 1) rfl, (List.forall_mem_cons.mpr ⟨List.mem_of_getElem? (i := 3) rfl, (List.forall_mem_cons.mpr ⟨List.mem_of_getElem? (i := 4) rfl, (fun _ h => absurd h List.not_mem_nil)⟩)⟩)⟩)⟩)⟩) (ih9679 y9701 1 y9700 (by omega) (by omega) (by omega) (by omega))
          · skip
            refine g_aload_n hk dX6_flatWindows_34 rfl ?_
            refine g_iload hk dX6_flatWindows_35 rfl ?_
            refine g_callV (n := 1) hk (k179_X6_valueAt l D zt q d I A x9511 hIv) (SP.same _) (fun _ h => h) (gi_V (List.mem_cons_of_mem _ (List.mem_append_left _ (List.mem_of_getElem? (i := 5) rfl))) (List.mem_cons_of_mem _ (List.mem_append_left _ (List.mem_of_getElem? (i := 6) rfl))) (List.mem_cons_of_mem _ (List.mem_append_left _ (List.mem_of_getElem? (i := 7) rfl))) (List.mem_cons_of_mem _ (List.mem_append_left _ (List.mem_of_getElem? (i := 4) rfl))) (gi_sub (fun w h => (List.mem_cons_of_mem _ (List.mem_append_right _ (List.mem_append_right _ (List.mem_append_right _ (List.mem_append_left _ h)))))) zg_k179_X6_valueAt)) rfl rfl rfl (by decide +kernel) ⟨Nat.le_of_ble_eq_true rfl, Nat.le_of_ble_eq_true rfl⟩ 13 rfl rfl rfl rfl (Nat.le_of_ble_eq_true rfl) ⟨Nat.le_of_ble_eq_true rfl, Nat.le_of_ble_eq_true rfl⟩ dX6_flatWindows_37 (fun v ty' w' hp hk' => ?_)
            obtain ⟨y9703, rfl, rfl⟩ := hp
            show GW κ 5 0 0 (wX q d I A) 40 [(4, .int x9511), (3, .int x9512), (2, .int x9513), (0, .ref (q 13)), (1, .int z1)] [.int y9703]
            refine g_aload_n hk dX6_flatWindows_40 rfl ?_
            refine g_iload hk dX6_flatWindows_41 rfl ?_
            refine g_iconst (v := 1) hk dX6_flatWindows_43 (by decide) ?_
            refine g_isub hk dX6_flatWindows_44 ?_
            refine g_topi (fun y9704 ey9704 => ?_)
            have hy9704 : y9704.toInt = x9511.toInt - 1 := i32_sub ey9704 rfl rfl (by omega) (by omega)
            refine g_callV (n := 1) hk (k179_X6_valueAt l D zt q d I A y9704 hIv) (SP.same _) (fun _ h => h) (gi_V (List.mem_cons_of_mem _ (List.mem_append_left _ (List.mem_of_getElem? (i := 5) rfl))) (List.mem_cons_of_mem _ (List.mem_append_left _ (List.mem_of_getElem? (i := 6) rfl))) (List.mem_cons_of_mem _ (List.mem_append_left _ (List.mem_of_getElem? (i := 7) rfl))) (List.mem_cons_of_mem _ (List.mem_append_left _ (List.mem_of_getElem? (i := 4) rfl))) (gi_sub (fun w h => (List.mem_cons_of_mem _ (List.mem_append_right _ (List.mem_append_right _ (List.mem_append_right _ (List.mem_append_left _ h)))))) zg_k179_X6_valueAt)) rfl rfl rfl (by decide +kernel) ⟨Nat.le_of_ble_eq_true rfl, Nat.le_of_ble_eq_true rfl⟩ 13 rfl rfl rfl rfl (Nat.le_of_ble_eq_true rfl) ⟨Nat.le_of_ble_eq_true rfl, Nat.le_of_ble_eq_true rfl⟩ dX6_flatWindows_45 (fun v ty' w' hp hk' => ?_)
            obtain ⟨y9705, rfl, rfl⟩ := hp
            show GW κ 5 0 0 (wX q d I A) 48 [(4, .int x9511), (3, .int x9512), (2, .int x9513), (0, .ref (q 13)), (1, .int z1)] [.int y9705, .int y9703]
            have b9706l := Int32.le_toInt y9703
            have b9706h := Int32.toInt_lt y9703
            have b9707l := Int32.le_toInt y9705
            have b9707h := Int32.toInt_lt y9705
            refine g_icmp_ne (tgt := 57) (a := y9703.toInt) (b := y9705.toInt) hk dX6_flatWindows_48 (by decide) rfl rfl (fun c9708 => ?_) (fun c9708 => ?_)
            · skip
              refine g_iconst (v := 1) hk dX6_flatWindows_57 (by decide) ?_
              refine g_istore_n (lv' := [(3, .int 1), (4, .int x9511), (2, .int x9513), (0, .ref (q 13)), (1, .int z1)]) hk dX6_flatWindows_58 (by decide) rfl ?_
              refine g_iload_n hk dX6_flatWindows_59 rfl ?_
              refine g_iload_n hk dX6_flatWindows_60 rfl ?_
              have b9709l := Int32.le_toInt z1
              have b9709h := Int32.toInt_lt z1
              refine g_icmp_lt (tgt := 67) (a := 1) (b := z1.toInt) hk dX6_flatWindows_61 (by decide) rfl rfl (fun c9710 => ?_) (fun c9710 => ?_)
              · skip
                obtain ⟨y9711, ey9711⟩ : ∃ y : Int32, y = x9511 + Int32.ofInt 1 := ⟨_, rfl⟩
                have hy9711 : y9711.toInt = x9511.toInt + 1 := i32_add ey9711 rfl (by decide) (by omega) (by omega)
                refine g_iinc (v := y9711) (lv' := [(4, .int y9711), (3, .int 1), (2, .int x9513), (0, .ref (q 13)), (1, .int z1)]) hk 1 dX6_flatWindows_67 rfl ey9711.symm (by decide) rfl ?_
                refine g_goto (tgt := 7) hk dX6_flatWindows_70 (by decide) ?_
                have k9712 : (1 : Int32).toInt = 1 := rfl
                exact g_lv (List.forall_mem_cons.mpr ⟨List.mem_of_getElem? (i := 0) rfl, (List.forall_mem_cons.mpr ⟨List.mem_of_getElem? (i := 1) rfl, (List.forall_mem_cons.mpr ⟨List.mem_of_getElem? (i := 2) rfl, (List.forall_mem_cons.mpr ⟨List.mem_of_getElem? (i := 3) rfl, (List.forall_mem_cons.mpr ⟨List.mem_of_getElem? (i := 4) rfl, (fun _ h => absurd h List.not_mem_nil)⟩)⟩)⟩)⟩)⟩) (ih9679 y9711 1 x9513 (by omega) (by omega) (by omega) (by omega))
              · skip
                have b9713l := Int32.le_toInt x9513
                have b9713h := Int32.toInt_lt x9513
                obtain ⟨y9714, ey9714⟩ : ∃ y : Int32, y = x9513 + Int32.ofInt 1 := ⟨_, rfl⟩
                refine g_iinc (v := y9714) (lv' := [(2, .int y9714), (3, .int 1), (4, .int x9511), (0, .ref (q 13)), (1, .int z1)]) hk 2 dX6_flatWindows_64 rfl ey9714.symm (by decide) rfl ?_
                obtain ⟨y9715, ey9715⟩ : ∃ y : Int32, y = x9511 + Int32.ofInt 1 := ⟨_, rfl⟩
                have hy9715 : y9715.toInt = x9511.toInt + 1 := i32_add ey9715 rfl (by decide) (by omega) (by omega)
                refine g_iinc (v := y9715) (lv' := [(4, .int y9715), (2, .int y9714), (3, .int 1), (0, .ref (q 13)), (1, .int z1)]) hk 2 dX6_flatWindows_67 rfl ey9715.symm (by decide) rfl ?_
                refine g_goto (tgt := 7) hk dX6_flatWindows_70 (by decide) ?_
                have k9716 : (1 : Int32).toInt = 1 := rfl
                exact g_lv (List.forall_mem_cons.mpr ⟨List.mem_of_getElem? (i := 0) rfl, (List.forall_mem_cons.mpr ⟨List.mem_of_getElem? (i := 2) rfl, (List.forall_mem_cons.mpr ⟨List.mem_of_getElem? (i := 1) rfl, (List.forall_mem_cons.mpr ⟨List.mem_of_getElem? (i := 3) rfl, (List.forall_mem_cons.mpr ⟨List.mem_of_getElem? (i := 4) rfl, (fun _ h => absurd h List.not_mem_nil)⟩)⟩)⟩)⟩)⟩) (ih9679 y9715 1 y9714 (by omega) (by omega) (by omega) (by omega))
            · skip
              obtain ⟨y9717, ey9717⟩ : ∃ y : Int32, y = x9512 + Int32.ofInt 1 := ⟨_, rfl⟩
              refine g_iinc (v := y9717) (lv' := [(3, .int y9717), (4, .int x9511), (2, .int x9513), (0, .ref (q 13)), (1, .int z1)]) hk 1 dX6_flatWindows_51 rfl ey9717.symm (by decide) rfl ?_
              refine g_goto (tgt := 59) hk dX6_flatWindows_54 (by decide) ?_
              refine g_iload_n hk dX6_flatWindows_59 rfl ?_
              refine g_iload_n hk dX6_flatWindows_60 rfl ?_
              have b9718l := Int32.le_toInt y9717
              have b9718h := Int32.toInt_lt y9717
              have b9719l := Int32.le_toInt z1
              have b9719h := Int32.toInt_lt z1
              refine g_icmp_lt (tgt := 67) (a := y9717.toInt) (b := z1.toInt) hk dX6_flatWindows_61 (by decide) rfl rfl (fun c9720 => ?_) (fun c9720 => ?_)
              · skip
                obtain ⟨y9721, ey9721⟩ : ∃ y : Int32, y = x9511 + Int32.ofInt 1 := ⟨_, rfl⟩
                have hy9721 : y9721.toInt = x9511.toInt + 1 := i32_add ey9721 rfl (by decide) (by omega) (by omega)
                refine g_iinc (v := y9721) (lv' := [(4, .int y9721), (3, .int y9717), (2, .int x9513), (0, .ref (q 13)), (1, .int z1)]) hk 1 dX6_flatWindows_67 rfl ey9721.symm (by decide) rfl ?_
                refine g_goto (tgt := 7) hk dX6_flatWindows_70 (by decide) ?_
                exact g_lv (List.forall_mem_cons.mpr ⟨List.mem_of_getElem? (i := 0) rfl, (List.forall_mem_cons.mpr ⟨List.mem_of_getElem? (i := 1) rfl, (List.forall_mem_cons.mpr ⟨List.mem_of_getElem? (i := 2) rfl, (List.forall_mem_cons.mpr ⟨List.mem_of_getElem? (i := 3) rfl, (List.forall_mem_cons.mpr ⟨List.mem_of_getElem? (i := 4) rfl, (fun _ h => absurd h List.not_mem_nil)⟩)⟩)⟩)⟩)⟩) (ih9679 y9721 y9717 x9513 (by omega) (by omega) (by omega) (by omega))
              · skip
                have b9722l := Int32.le_toInt x9513
                have b9722h := Int32.toInt_lt x9513
                obtain ⟨y9723, ey9723⟩ : ∃ y : Int32, y = x9513 + Int32.ofInt 1 := ⟨_, rfl⟩
                refine g_iinc (v := y9723) (lv' := [(2, .int y9723), (3, .int y9717), (4, .int x9511), (0, .ref (q 13)), (1, .int z1)]) hk 2 dX6_flatWindows_64 rfl ey9723.symm (by decide) rfl ?_
                obtain ⟨y9724, ey9724⟩ : ∃ y : Int32, y = x9511 + Int32.ofInt 1 := ⟨_, rfl⟩
                have hy9724 : y9724.toInt = x9511.toInt + 1 := i32_add ey9724 rfl (by decide) (by omega) (by omega)
                refine g_iinc (v := y9724) (lv' := [(4, .int y9724), (2, .int y9723), (3, .int y9717), (0, .ref (q 13)), (1, .int z1)]) hk 2 dX6_flatWindows_67 rfl ey9724.symm (by decide) rfl ?_
                refine g_goto (tgt := 7) hk dX6_flatWindows_70 (by decide) ?_
                exact g_lv (List.forall_mem_cons.mpr ⟨List.mem_of_getElem? (i := 0) rfl, (List.forall_mem_cons.mpr ⟨List.mem_of_getElem? (i := 2) rfl, (List.forall_mem_cons.mpr ⟨List.mem_of_getElem? (i := 1) rfl, (List.forall_mem_cons.mpr ⟨List.mem_of_getElem? (i := 3) rfl, (List.forall_mem_cons.mpr ⟨List.mem_of_getElem? (i := 4) rfl, (fun _ h => absurd h List.not_mem_nil)⟩)⟩)⟩)⟩)⟩) (ih9679 y9724 y9717 y9723 (by omega) (by omega) (by omega) (by omega))
  have k9726 : (0 : Int32).toInt = 0 := rfl
  obtain ⟨n9725, n9725a, n9725b⟩ : ∃ n : Nat, 161 - 0 < (n : Int) ∧ 0 < n := ⟨((161 - 0 : Int)).toNat + 1, by omega, by omega⟩
  exact lp9676 n9725 0 0 0 (by omega) (by omega) n9725a n9725b
def wo_k306_X11_flat : List Cond := [Cond.fieldLink RX11 28 "WarpDesk" "series" "LWarpDesk$Series;", Cond.methodLink RX11 353 yX6_flatWindows, Cond.instanceMethod yX6_flatWindows, Cond.selects RX6 yX6_flatWindows yX6_flatWindows, Cond.initialized RX6]
def wz_k306_X11_flat : List Cond := .code yX11_flat cX11_flat 2 (some .int) :: (wo_k306_X11_flat ++ (wsX110 ++ (wz_k307_X6_flatWindows ++ ([] : List Cond))))
theorem zg_k306_X11_flat : ∀ w ∈ wz_k306_X11_flat, goodWord w = true := zg_cons rfl (zg_app (by decide +kernel) (zg_app zgU_wsX110 (zg_app zg_k307_X6_flatWindows zg_nil)))
theorem zi_k306_X11_flat : ∀ w ∈ wz_k306_X11_flat, w ∈ lw_tbl := zi_cons zw_1308 (zi_app (zi_cons zw_489 (zi_cons zw_1309 (zi_cons zw_1310 (zi_cons zw_1311 (zi_cons zw_109 zi_nil))))) (zi_app inX11 (zi_app zi_k307_X6_flatWindows zi_nil)))
set_option maxHeartbeats 4000000 in
set_option maxRecDepth 100000 in
theorem k306_X11_flat (l : Launch) (D : va_G) (zt : Nat × Nat × Nat × (Nat → Nat) × (Nat → Nat)) (q : Nat → Nat) (d : Nat → ClassId) (I : Nat → Int32) (A : Nat → Nat → Int32) (z1 : Int32) (hIv : IvX I A) : GM l D zt (tyX d) yX11_flat wz_k306_X11_flat ({ frames := 3, cells := 0, slots := 0, locals := 66 } : Room) [.ref (q 0), .int z1] (wX q d I A) (fun v _ w' => ∃ y0 : Int32, v = some (.int y0) ∧ w' = wX q d I A) 0 0 := by
  refine GM.of (cc := cX11_flat) (maxL := 2) (ret := (some .int)) (own := RX11) (lv := [(0, .ref (q 0)), (1, .int z1)]) (by decide) rfl rfl (Nat.le_of_ble_eq_true rfl) rfl (fun κ sz hk hR hN => ?_)
  have hin11 : ∀ w ∈ u_ws RX11 TX11 10, w ∈ wz_k306_X11_flat := fun w h => (List.mem_cons_of_mem _ (List.mem_append_right _ (List.mem_append_left _ h)))
  refine g_iload_n hk dX11_flat_0 rfl ?_
  refine g_iconst (v := 1) hk dX11_flat_1 (by decide) ?_
  have b9508l := Int32.le_toInt z1
  have b9508h := Int32.toInt_lt z1
  refine g_icmp_lt (tgt := 12) (a := z1.toInt) (b := 1) hk dX11_flat_2 (by decide) rfl rfl (fun c9509 => ?_) (fun c9509 => ?_)
  · skip
    refine g_iconst (v := (-1)) hk dX11_flat_12 (by decide) ?_
    refine g_goto (tgt := 24) hk dX11_flat_13 (by decide) ?_
    exact g_iret hk hR rfl ⟨(-1), rfl, rfl⟩ dX11_flat_24
  · skip
    refine g_iload_n hk dX11_flat_5 rfl ?_
    refine g_sipush (v := 160) hk dX11_flat_6 (by decide) ?_
    refine g_icmp_le (tgt := 16) (a := z1.toInt) (b := 160) hk dX11_flat_9 (by decide) rfl rfl (fun c9510 => ?_) (fun c9510 => ?_)
    · skip
      refine g_aload_n hk dX11_flat_16 rfl ?_
      refine gX_r0_2 hk hin11 (List.mem_cons_of_mem _ (List.mem_append_left _ (List.mem_of_getElem? (i := 0) rfl))) dX11_flat_17 ?_
      refine g_iload_n hk dX11_flat_20 rfl ?_
      refine g_callV (n := 1) hk (k307_X6_flatWindows l D zt q d I A z1 hIv) (SP.same _) (fun _ h => h) (gi_V (List.mem_cons_of_mem _ (List.mem_append_left _ (List.mem_of_getElem? (i := 1) rfl))) (List.mem_cons_of_mem _ (List.mem_append_left _ (List.mem_of_getElem? (i := 2) rfl))) (List.mem_cons_of_mem _ (List.mem_append_left _ (List.mem_of_getElem? (i := 3) rfl))) (List.mem_cons_of_mem _ (List.mem_append_left _ (List.mem_of_getElem? (i := 4) rfl))) (gi_sub (fun w h => (List.mem_cons_of_mem _ (List.mem_append_right _ (List.mem_append_right _ (List.mem_append_left _ h))))) zg_k307_X6_flatWindows)) rfl rfl rfl (by decide +kernel) ⟨Nat.le_of_ble_eq_true rfl, Nat.le_of_ble_eq_true rfl⟩ 13 rfl rfl rfl rfl (Nat.le_of_ble_eq_true rfl) ⟨Nat.le_of_ble_eq_true rfl, Nat.le_of_ble_eq_true rfl⟩ dX11_flat_21 (fun v ty' w' hp hk' => ?_)
      obtain ⟨y9727, rfl, rfl⟩ := hp
      show GW κ 2 0 0 (wX q d I A) 24 [(0, .ref (q 0)), (1, .int z1)] [.int y9727]
      have b9728l := Int32.le_toInt y9727
      have b9728h := Int32.toInt_lt y9727
      exact g_iret hk hR rfl ⟨y9727, rfl, rfl⟩ dX11_flat_24
    · skip
      refine g_iconst (v := (-1)) hk dX11_flat_12 (by decide) ?_
      refine g_goto (tgt := 24) hk dX11_flat_13 (by decide) ?_
      exact g_iret hk hR rfl ⟨(-1), rfl, rfl⟩ dX11_flat_24
def wo_k310_X6_runFrom : List Cond := [Cond.fieldLink RX6 19 "WarpDesk$Series" "size" "I", Cond.methodLink RX6 37 yX6_hasReading, Cond.instanceMethod yX6_hasReading, Cond.selects RX6 yX6_hasReading yX6_hasReading, Cond.initialized RX6]
def wz_k310_X6_runFrom : List Cond := .code yX6_runFrom cX6_runFrom 4 (some .int) :: (wo_k310_X6_runFrom ++ (wsX60 ++ (wz_k188_X6_hasReading ++ ([] : List Cond))))
theorem zg_k310_X6_runFrom : ∀ w ∈ wz_k310_X6_runFrom, goodWord w = true := zg_cons rfl (zg_app (by decide +kernel) (zg_app zgU_wsX60 (zg_app zg_k188_X6_hasReading zg_nil)))
theorem zi_k310_X6_runFrom : ∀ w ∈ wz_k310_X6_runFrom, w ∈ lw_tbl := zi_cons zw_1324 (zi_app (zi_cons zw_282 (zi_cons zw_905 (zi_cons zw_840 (zi_cons zw_841 (zi_cons zw_109 zi_nil))))) (zi_app inX6 (zi_app zi_k188_X6_hasReading zi_nil)))
set_option maxHeartbeats 4000000 in
set_option maxRecDepth 100000 in
theorem k310_X6_runFrom (l : Launch) (D : va_G) (zt : Nat × Nat × Nat × (Nat → Nat) × (Nat → Nat)) (q : Nat → Nat) (d : Nat → ClassId) (I : Nat → Int32) (A : Nat → Nat → Int32) (z1 : Int32) (hIv : IvX I A) : GM l D zt (tyX d) yX6_runFrom wz_k310_X6_runFrom ({ frames := 2, cells := 0, slots := 0, locals := 42 } : Room) [.ref (q 13), .int z1] (wX q d I A) (fun v _ w' => ∃ y0 : Int32, v = some (.int y0) ∧ w' = wX q d I A) 0 0 := by
  refine GM.of (cc := cX6_runFrom) (maxL := 4) (ret := (some .int)) (own := RX6) (lv := [(0, .ref (q 13)), (1, .int z1)]) (by decide) rfl rfl (Nat.le_of_ble_eq_true rfl) rfl (fun κ sz hk hR hN => ?_)
  have hin6 : ∀ w ∈ u_ws RX6 TX6 3, w ∈ wz_k310_X6_runFrom := fun w h => (List.mem_cons_of_mem _ (List.mem_append_right _ (List.mem_append_left _ h)))
  refine g_iconst (v := 0) hk dX6_runFrom_0 (by decide) ?_
  refine g_istore_n (lv' := [(2, .int 0), (0, .ref (q 13)), (1, .int z1)]) hk dX6_runFrom_1 (by decide) rfl ?_
  refine g_iload_n hk dX6_runFrom_2 rfl ?_
  refine g_istore_n (lv' := [(3, .int z1), (2, .int 0), (0, .ref (q 13)), (1, .int z1)]) hk dX6_runFrom_3 (by decide) rfl ?_
  have lp9773 : ∀ (n9774 : Nat) (x9739 : Int32) (x9740 : Int32), (161 - x9739.toInt < (n9774 : Int)) → (0 < n9774) → GW κ 4 0 0 (wX q d I A) 4 [(3, .int x9739), (2, .int x9740), (0, .ref (q 13)), (1, .int z1)] [] := by
    intro n9774
    induction n9774 with
    | zero =>
      intro x9739 x9740 m9775 m9775z
      exact absurd m9775z (Nat.lt_irrefl 0)
    | succ n9774 ih9776 =>
      intro x9739 x9740 m9775 m9775z
      refine g_iload_n hk dX6_runFrom_4 rfl ?_
      refine g_aload_n hk dX6_runFrom_5 rfl ?_
      refine gX_i18 (v := (I 18)) hk hin6 (List.mem_cons_of_mem _ (List.mem_append_left _ (List.mem_of_getElem? (i := 0) rfl))) dX6_runFrom_6 rfl ?_
      have f9777 := IvX_f18 hIv
      have b9778l := Int32.le_toInt x9739
      have b9778h := Int32.toInt_lt x9739
      refine g_icmp_ge (tgt := 29) (a := x9739.toInt) (b := (I 18).toInt) hk dX6_runFrom_9 (by decide) rfl rfl (fun c9779 => ?_) (fun c9779 => ?_)
      · skip
        refine g_iload_n hk dX6_runFrom_29 rfl ?_
        have b9780l := Int32.le_toInt x9740
        have b9780h := Int32.toInt_lt x9740
        exact g_iret hk hR rfl ⟨x9740, rfl, rfl⟩ dX6_runFrom_30
      · skip
        refine g_aload_n hk dX6_runFrom_12 rfl ?_
        refine g_iload_n hk dX6_runFrom_13 rfl ?_
        refine g_callV (n := 1) hk (k188_X6_hasReading l D zt q d I A x9739 hIv) (SP.same _) (fun _ h => h) (gi_V (List.mem_cons_of_mem _ (List.mem_append_left _ (List.mem_of_getElem? (i := 1) rfl))) (List.mem_cons_of_mem _ (List.mem_append_left _ (List.mem_of_getElem? (i := 2) rfl))) (List.mem_cons_of_mem _ (List.mem_append_left _ (List.mem_of_getElem? (i := 3) rfl))) (List.mem_cons_of_mem _ (List.mem_append_left _ (List.mem_of_getElem? (i := 4) rfl))) (gi_sub (fun w h => (List.mem_cons_of_mem _ (List.mem_append_right _ (List.mem_append_right _ (List.mem_append_left _ h))))) zg_k188_X6_hasReading)) rfl rfl rfl (by decide +kernel) ⟨Nat.le_of_ble_eq_true rfl, Nat.le_of_ble_eq_true rfl⟩ 13 rfl rfl rfl rfl (Nat.le_of_ble_eq_true rfl) ⟨Nat.le_of_ble_eq_true rfl, Nat.le_of_ble_eq_true rfl⟩ dX6_runFrom_14 (fun v ty' w' hp hk' => ?_)
        rcases hp with ⟨rfl, rfl⟩ | ⟨rfl, rfl⟩
        · skip
          show GW κ 4 0 0 (wX q d I A) 17 [(3, .int x9739), (2, .int x9740), (0, .ref (q 13)), (1, .int z1)] [.int 0]
          refine g_if_eq (tgt := 29) (a := 0) hk dX6_runFrom_17 (by decide) rfl (fun _ => ?_) (fun z9 => absurd (show (0 : Int) = (0 : Int) from by decide) z9)
          refine g_iload_n hk dX6_runFrom_29 rfl ?_
          have b9783l := Int32.le_toInt x9740
          have b9783h := Int32.toInt_lt x9740
          exact g_iret hk hR rfl ⟨x9740, rfl, rfl⟩ dX6_runFrom_30
        · skip
          show GW κ 4 0 0 (wX q d I A) 17 [(3, .int x9739), (2, .int x9740), (0, .ref (q 13)), (1, .int z1)] [.int 1]
          refine g_if_eq (tgt := 29) (a := 1) hk dX6_runFrom_17 (by decide) rfl (fun z9 => absurd z9 (show ¬ ((1 : Int) = (0 : Int)) from by decide)) (fun _ => ?_)
          have b9784l := Int32.le_toInt x9740
          have b9784h := Int32.toInt_lt x9740
          obtain ⟨y9785, ey9785⟩ : ∃ y : Int32, y = x9740 + Int32.ofInt 1 := ⟨_, rfl⟩
          refine g_iinc (v := y9785) (lv' := [(2, .int y9785), (3, .int x9739), (0, .ref (q 13)), (1, .int z1)]) hk 1 dX6_runFrom_20 rfl ey9785.symm (by decide) rfl ?_
          obtain ⟨y9786, ey9786⟩ : ∃ y : Int32, y = x9739 + Int32.ofInt 1 := ⟨_, rfl⟩
          have hy9786 : y9786.toInt = x9739.toInt + 1 := i32_add ey9786 rfl (by decide) (by omega) (by omega)
          refine g_iinc (v := y9786) (lv' := [(3, .int y9786), (2, .int y9785), (0, .ref (q 13)), (1, .int z1)]) hk 1 dX6_runFrom_23 rfl ey9786.symm (by decide) rfl ?_
          refine g_goto (tgt := 4) hk dX6_runFrom_26 (by decide) ?_
          exact g_lv (List.forall_mem_cons.mpr ⟨List.mem_of_getElem? (i := 0) rfl, (List.forall_mem_cons.mpr ⟨List.mem_of_getElem? (i := 1) rfl, (List.forall_mem_cons.mpr ⟨List.mem_of_getElem? (i := 2) rfl, (List.forall_mem_cons.mpr ⟨List.mem_of_getElem? (i := 3) rfl, (fun _ h => absurd h List.not_mem_nil)⟩)⟩)⟩)⟩) (ih9776 y9786 y9785 (by omega) (by omega))
  have k9788 : (0 : Int32).toInt = 0 := rfl
  have b9789l := Int32.le_toInt z1
  have b9789h := Int32.toInt_lt z1
  obtain ⟨n9787, n9787a, n9787b⟩ : ∃ n : Nat, 161 - z1.toInt < (n : Int) ∧ 0 < n := ⟨((161 - z1.toInt : Int)).toNat + 1, by omega, by omega⟩
  exact lp9773 n9787 z1 0 n9787a n9787b
def wo_k309_X6_longestRunFirst : List Cond := [Cond.fieldLink RX6 19 "WarpDesk$Series" "size" "I", Cond.methodLink RX6 46 yX6_runFrom, Cond.instanceMethod yX6_runFrom, Cond.selects RX6 yX6_runFrom yX6_runFrom, Cond.initialized RX6]
def wz_k309_X6_longestRunFirst : List Cond := .code yX6_longestRunFirst cX6_longestRunFirst 5 (some .int) :: (wo_k309_X6_longestRunFirst ++ (wsX60 ++ (wz_k310_X6_runFrom ++ ([] : List Cond))))
theorem zg_k309_X6_longestRunFirst : ∀ w ∈ wz_k309_X6_longestRunFirst, goodWord w = true := zg_cons rfl (zg_app (by decide +kernel) (zg_app zgU_wsX60 (zg_app zg_k310_X6_runFrom zg_nil)))
theorem zi_k309_X6_longestRunFirst : ∀ w ∈ wz_k309_X6_longestRunFirst, w ∈ lw_tbl := zi_cons zw_1320 (zi_app (zi_cons zw_282 (zi_cons zw_1321 (zi_cons zw_1322 (zi_cons zw_1323 (zi_cons zw_109 zi_nil))))) (zi_app inX6 (zi_app zi_k310_X6_runFrom zi_nil)))
set_option maxHeartbeats 4000000 in
set_option maxRecDepth 100000 in
theorem k309_X6_longestRunFirst (l : Launch) (D : va_G) (zt : Nat × Nat × Nat × (Nat → Nat) × (Nat → Nat)) (q : Nat → Nat) (d : Nat → ClassId) (I : Nat → Int32) (A : Nat → Nat → Int32) (hIv : IvX I A) : GM l D zt (tyX d) yX6_longestRunFirst wz_k309_X6_longestRunFirst ({ frames := 3, cells := 0, slots := 0, locals := 65 } : Room) [.ref (q 13)] (wX q d I A) (fun v _ w' => ∃ y0 : Int32, ((-2) ≤ y0.toInt) ∧ (y0.toInt ≤ 159) ∧ v = some (.int y0) ∧ w' = wX q d I A) 0 0 := by
  refine GM.of (cc := cX6_longestRunFirst) (maxL := 5) (ret := (some .int)) (own := RX6) (lv := [(0, .ref (q 13))]) (by decide) rfl rfl (Nat.le_of_ble_eq_true rfl) rfl (fun κ sz hk hR hN => ?_)
  have hin6 : ∀ w ∈ u_ws RX6 TX6 3, w ∈ wz_k309_X6_longestRunFirst := fun w h => (List.mem_cons_of_mem _ (List.mem_append_right _ (List.mem_append_left _ h)))
  refine g_bipush (v := (-2)) hk dX6_longestRunFirst_0 (by decide) ?_
  refine g_istore_n (lv' := [(1, .int (-2)), (0, .ref (q 13))]) hk dX6_longestRunFirst_2 (by decide) rfl ?_
  refine g_iconst (v := 0) hk dX6_longestRunFirst_3 (by decide) ?_
  refine g_istore_n (lv' := [(2, .int 0), (1, .int (-2)), (0, .ref (q 13))]) hk dX6_longestRunFirst_4 (by decide) rfl ?_
  refine g_iconst (v := 0) hk dX6_longestRunFirst_5 (by decide) ?_
  refine g_istore_n (lv' := [(3, .int 0), (2, .int 0), (1, .int (-2)), (0, .ref (q 13))]) hk dX6_longestRunFirst_6 (by decide) rfl ?_
  have lp9833 : ∀ (n9834 : Nat) (x9732 : Int32) (x9733 : Int32) (x9734 : Int32), (0 ≤ x9732.toInt) → (x9732.toInt ≤ 160) → (0 ≤ x9733.toInt) → ((-2) ≤ x9734.toInt) → (x9734.toInt ≤ 159) → (161 - x9732.toInt < (n9834 : Int)) → (0 < n9834) → GW κ 5 0 0 (wX q d I A) 7 [(3, .int x9732), (2, .int x9733), (1, .int x9734), (0, .ref (q 13))] [] := by
    intro n9834
    induction n9834 with
    | zero =>
      intro x9732 x9733 x9734 h9828 h9829 h9830 h9831 h9832 m9835 m9835z
      exact absurd m9835z (Nat.lt_irrefl 0)
    | succ n9834 ih9836 =>
      intro x9732 x9733 x9734 h9828 h9829 h9830 h9831 h9832 m9835 m9835z
      refine g_iload_n hk dX6_longestRunFirst_7 rfl ?_
      refine g_aload_n hk dX6_longestRunFirst_8 rfl ?_
      refine gX_i18 (v := (I 18)) hk hin6 (List.mem_cons_of_mem _ (List.mem_append_left _ (List.mem_of_getElem? (i := 0) rfl))) dX6_longestRunFirst_9 rfl ?_
      have f9837 := IvX_f18 hIv
      refine g_icmp_ge (tgt := 39) (a := x9732.toInt) (b := (I 18).toInt) hk dX6_longestRunFirst_12 (by decide) rfl rfl (fun c9838 => ?_) (fun c9838 => ?_)
      · skip
        refine g_iload_n hk dX6_longestRunFirst_39 rfl ?_
        exact g_iret hk hR rfl ⟨x9734, (by omega), (by omega), rfl, rfl⟩ dX6_longestRunFirst_40
      · skip
        refine g_aload_n hk dX6_longestRunFirst_15 rfl ?_
        refine g_iload_n hk dX6_longestRunFirst_16 rfl ?_
        refine g_callV (n := 1) hk (k310_X6_runFrom l D zt q d I A x9732 hIv) (SP.same _) (fun _ h => h) (gi_V (List.mem_cons_of_mem _ (List.mem_append_left _ (List.mem_of_getElem? (i := 1) rfl))) (List.mem_cons_of_mem _ (List.mem_append_left _ (List.mem_of_getElem? (i := 2) rfl))) (List.mem_cons_of_mem _ (List.mem_append_left _ (List.mem_of_getElem? (i := 3) rfl))) (List.mem_cons_of_mem _ (List.mem_append_left _ (List.mem_of_getElem? (i := 4) rfl))) (gi_sub (fun w h => (List.mem_cons_of_mem _ (List.mem_append_right _ (List.mem_append_right _ (List.mem_append_left _ h))))) zg_k310_X6_runFrom)) rfl rfl rfl (by decide +kernel) ⟨Nat.le_of_ble_eq_true rfl, Nat.le_of_ble_eq_true rfl⟩ 13 rfl rfl rfl rfl (Nat.le_of_ble_eq_true rfl) ⟨Nat.le_of_ble_eq_true rfl, Nat.le_of_ble_eq_true rfl⟩ dX6_longestRunFirst_17 (fun v ty' w' hp hk' => ?_)
        obtain ⟨y9839, rfl, rfl⟩ := hp
        show GW κ 5 0 0 (wX q d I A) 20 [(3, .int x9732), (2, .int x9733), (1, .int x9734), (0, .ref (q 13))] [.int y9839]
        refine g_istore (lv' := [(4, .int y9839), (3, .int x9732), (2, .int x9733), (1, .int x9734), (0, .ref (q 13))]) hk dX6_longestRunFirst_20 (by decide) rfl ?_
        refine g_iload hk dX6_longestRunFirst_22 rfl ?_
        refine g_iload_n hk dX6_longestRunFirst_24 rfl ?_
        have b9840l := Int32.le_toInt y9839
        have b9840h := Int32.toInt_lt y9839
        have b9841l := Int32.le_toInt x9733
        have b9841h := Int32.toInt_lt x9733
        refine g_icmp_le (tgt := 33) (a := y9839.toInt) (b := x9733.toInt) hk dX6_longestRunFirst_25 (by decide) rfl rfl (fun c9842 => ?_) (fun c9842 => ?_)
        · skip
          obtain ⟨y9843, ey9843⟩ : ∃ y : Int32, y = x9732 + Int32.ofInt 1 := ⟨_, rfl⟩
          have hy9843 : y9843.toInt = x9732.toInt + 1 := i32_add ey9843 rfl (by decide) (by omega) (by omega)
          refine g_iinc (v := y9843) (lv' := [(3, .int y9843), (4, .int y9839), (2, .int x9733), (1, .int x9734), (0, .ref (q 13))]) hk 1 dX6_longestRunFirst_33 rfl ey9843.symm (by decide) rfl ?_
          refine g_goto (tgt := 7) hk dX6_longestRunFirst_36 (by decide) ?_
          exact g_lv (List.forall_mem_cons.mpr ⟨List.mem_of_getElem? (i := 0) rfl, (List.forall_mem_cons.mpr ⟨List.mem_of_getElem? (i := 2) rfl, (List.forall_mem_cons.mpr ⟨List.mem_of_getElem? (i := 3) rfl, (List.forall_mem_cons.mpr ⟨List.mem_of_getElem? (i := 4) rfl, (fun _ h => absurd h List.not_mem_nil)⟩)⟩)⟩)⟩) (ih9836 y9843 x9733 x9734 (by omega) (by omega) (by omega) (by omega) (by omega) (by omega) (by omega))
        · skip
          refine g_iload hk dX6_longestRunFirst_28 rfl ?_
          refine g_istore_n (lv' := [(2, .int y9839), (4, .int y9839), (3, .int x9732), (1, .int x9734), (0, .ref (q 13))]) hk dX6_longestRunFirst_30 (by decide) rfl ?_
          refine g_iload_n hk dX6_longestRunFirst_31 rfl ?_
          refine g_istore_n (lv' := [(1, .int x9732), (2, .int y9839), (4, .int y9839), (3, .int x9732), (0, .ref (q 13))]) hk dX6_longestRunFirst_32 (by decide) rfl ?_
          obtain ⟨y9844, ey9844⟩ : ∃ y : Int32, y = x9732 + Int32.ofInt 1 := ⟨_, rfl⟩
          have hy9844 : y9844.toInt = x9732.toInt + 1 := i32_add ey9844 rfl (by decide) (by omega) (by omega)
          refine g_iinc (v := y9844) (lv' := [(3, .int y9844), (1, .int x9732), (2, .int y9839), (4, .int y9839), (0, .ref (q 13))]) hk 3 dX6_longestRunFirst_33 rfl ey9844.symm (by decide) rfl ?_
          refine g_goto (tgt := 7) hk dX6_longestRunFirst_36 (by decide) ?_
          exact g_lv (List.forall_mem_cons.mpr ⟨List.mem_of_getElem? (i := 0) rfl, (List.forall_mem_cons.mpr ⟨List.mem_of_getElem? (i := 2) rfl, (List.forall_mem_cons.mpr ⟨List.mem_of_getElem? (i := 1) rfl, (List.forall_mem_cons.mpr ⟨List.mem_of_getElem? (i := 4) rfl, (fun _ h => absurd h List.not_mem_nil)⟩)⟩)⟩)⟩) (ih9836 y9844 y9839 x9732 (by omega) (by omega) (by omega) (by omega) (by omega) (by omega) (by omega))
  have k9846 : (0 : Int32).toInt = 0 := rfl
  have k9847 : ((-2) : Int32).toInt = (-2) := rfl
  obtain ⟨n9845, n9845a, n9845b⟩ : ∃ n : Nat, 161 - 0 < (n : Int) ∧ 0 < n := ⟨((161 - 0 : Int)).toNat + 1, by omega, by omega⟩
  exact lp9833 n9845 0 0 (-2) (by omega) (by omega) (by omega) (by omega) (by omega) n9845a n9845b
def wo_k308_X11_whole : List Cond := [Cond.fieldLink RX11 28 "WarpDesk" "series" "LWarpDesk$Series;", Cond.methodLink RX11 356 yX6_longestRunFirst, Cond.instanceMethod yX6_longestRunFirst, Cond.selects RX6 yX6_longestRunFirst yX6_longestRunFirst, Cond.initialized RX6, Cond.methodLink RX11 359 yX6_runFrom, Cond.instanceMethod yX6_runFrom, Cond.selects RX6 yX6_runFrom yX6_runFrom]
def wz_k308_X11_whole : List Cond := .code yX11_whole cX11_whole 3 (some .int) :: (wo_k308_X11_whole ++ (wsX110 ++ (wz_k309_X6_longestRunFirst ++ (wz_k310_X6_runFrom ++ ([] : List Cond)))))
theorem zg_k308_X11_whole : ∀ w ∈ wz_k308_X11_whole, goodWord w = true := zg_cons rfl (zg_app (by decide +kernel) (zg_app zgU_wsX110 (zg_app zg_k309_X6_longestRunFirst (zg_app zg_k310_X6_runFrom zg_nil))))
theorem zi_k308_X11_whole : ∀ w ∈ wz_k308_X11_whole, w ∈ lw_tbl := zi_cons zw_1316 (zi_app (zi_cons zw_489 (zi_cons zw_1317 (zi_cons zw_1318 (zi_cons zw_1319 (zi_cons zw_109 (zi_cons zw_1325 (zi_cons zw_1322 (zi_cons zw_1323 zi_nil)))))))) (zi_app inX11 (zi_app zi_k309_X6_longestRunFirst (zi_app zi_k310_X6_runFrom zi_nil))))
set_option maxHeartbeats 4000000 in
set_option maxRecDepth 100000 in
theorem k308_X11_whole (l : Launch) (D : va_G) (zt : Nat × Nat × Nat × (Nat → Nat) × (Nat → Nat)) (q : Nat → Nat) (d : Nat → ClassId) (I : Nat → Int32) (A : Nat → Nat → Int32) (z1 : Int32) (hIv : IvX I A) : GM l D zt (tyX d) yX11_whole wz_k308_X11_whole ({ frames := 4, cells := 0, slots := 0, locals := 89 } : Room) [.ref (q 0), .int z1] (wX q d I A) (fun v _ w' => ∃ y0 : Int32, v = some (.int y0) ∧ w' = wX q d I A) 0 0 := by
  refine GM.of (cc := cX11_whole) (maxL := 3) (ret := (some .int)) (own := RX11) (lv := [(0, .ref (q 0)), (1, .int z1)]) (by decide) rfl rfl (Nat.le_of_ble_eq_true rfl) rfl (fun κ sz hk hR hN => ?_)
  have hin11 : ∀ w ∈ u_ws RX11 TX11 10, w ∈ wz_k308_X11_whole := fun w h => (List.mem_cons_of_mem _ (List.mem_append_right _ (List.mem_append_left _ h)))
  refine g_iload_n hk dX11_whole_0 rfl ?_
  have b9729l := Int32.le_toInt z1
  have b9729h := Int32.toInt_lt z1
  refine g_if_lt (tgt := 9) (a := z1.toInt) hk dX11_whole_1 (by decide) rfl (fun c9730 => ?_) (fun c9730 => ?_)
  · skip
    refine g_iconst (v := (-1)) hk dX11_whole_9 (by decide) ?_
    exact g_iret hk hR rfl ⟨(-1), rfl, rfl⟩ dX11_whole_10
  · skip
    refine g_iload_n hk dX11_whole_4 rfl ?_
    refine g_iconst (v := 1) hk dX11_whole_5 (by decide) ?_
    refine g_icmp_le (tgt := 11) (a := z1.toInt) (b := 1) hk dX11_whole_6 (by decide) rfl rfl (fun c9731 => ?_) (fun c9731 => ?_)
    · skip
      refine g_aload_n hk dX11_whole_11 rfl ?_
      refine gX_r0_2 hk hin11 (List.mem_cons_of_mem _ (List.mem_append_left _ (List.mem_of_getElem? (i := 0) rfl))) dX11_whole_12 ?_
      refine g_callV (n := 0) hk (k309_X6_longestRunFirst l D zt q d I A  hIv) (SP.same _) (fun _ h => h) (gi_V (List.mem_cons_of_mem _ (List.mem_append_left _ (List.mem_of_getElem? (i := 1) rfl))) (List.mem_cons_of_mem _ (List.mem_append_left _ (List.mem_of_getElem? (i := 2) rfl))) (List.mem_cons_of_mem _ (List.mem_append_left _ (List.mem_of_getElem? (i := 3) rfl))) (List.mem_cons_of_mem _ (List.mem_append_left _ (List.mem_of_getElem? (i := 4) rfl))) (gi_sub (fun w h => (List.mem_cons_of_mem _ (List.mem_append_right _ (List.mem_append_right _ (List.mem_append_left _ h))))) zg_k309_X6_longestRunFirst)) rfl rfl rfl (by decide +kernel) ⟨Nat.le_of_ble_eq_true rfl, Nat.le_of_ble_eq_true rfl⟩ 13 rfl rfl rfl rfl (Nat.le_of_ble_eq_true rfl) ⟨Nat.le_of_ble_eq_true rfl, Nat.le_of_ble_eq_true rfl⟩ dX11_whole_15 (fun v ty' w' hp hk' => ?_)
      obtain ⟨y9848, c9849, c9850, rfl, rfl⟩ := hp
      show GW κ 3 0 0 (wX q d I A) 18 [(0, .ref (q 0)), (1, .int z1)] [.int y9848]
      refine g_istore_n (lv' := [(2, .int y9848), (0, .ref (q 0)), (1, .int z1)]) hk dX11_whole_18 (by decide) rfl ?_
      refine g_iload_n hk dX11_whole_19 rfl ?_
      refine g_if_lt (tgt := 27) (a := y9848.toInt) hk dX11_whole_20 (by decide) rfl (fun c9851 => ?_) (fun c9851 => ?_)
      · skip
        refine g_iload_n hk dX11_whole_27 rfl ?_
        exact g_iret hk hR rfl ⟨y9848, rfl, rfl⟩ dX11_whole_28
      · skip
        refine g_iload_n hk dX11_whole_23 rfl ?_
        refine g_if_ne (tgt := 29) (a := z1.toInt) hk dX11_whole_24 (by decide) rfl (fun c9852 => ?_) (fun c9852 => ?_)
        · skip
          refine g_aload_n hk dX11_whole_29 rfl ?_
          refine gX_r0_2 hk hin11 (List.mem_cons_of_mem _ (List.mem_append_left _ (List.mem_of_getElem? (i := 0) rfl))) dX11_whole_30 ?_
          refine g_iload_n hk dX11_whole_33 rfl ?_
          refine g_callV (n := 1) hk (k310_X6_runFrom l D zt q d I A y9848 hIv) (SP.same _) (fun _ h => h) (gi_V (List.mem_cons_of_mem _ (List.mem_append_left _ (List.mem_of_getElem? (i := 5) rfl))) (List.mem_cons_of_mem _ (List.mem_append_left _ (List.mem_of_getElem? (i := 6) rfl))) (List.mem_cons_of_mem _ (List.mem_append_left _ (List.mem_of_getElem? (i := 7) rfl))) (List.mem_cons_of_mem _ (List.mem_append_left _ (List.mem_of_getElem? (i := 4) rfl))) (gi_sub (fun w h => (List.mem_cons_of_mem _ (List.mem_append_right _ (List.mem_append_right _ (List.mem_append_right _ (List.mem_append_left _ h)))))) zg_k310_X6_runFrom)) rfl rfl rfl (by decide +kernel) ⟨Nat.le_of_ble_eq_true rfl, Nat.le_of_ble_eq_true rfl⟩ 13 rfl rfl rfl rfl (Nat.le_of_ble_eq_true rfl) ⟨Nat.le_of_ble_eq_true rfl, Nat.le_of_ble_eq_true rfl⟩ dX11_whole_34 (fun v ty' w' hp hk' => ?_)
          obtain ⟨y9853, rfl, rfl⟩ := hp
          show GW κ 3 0 0 (wX q d I A) 37 [(2, .int y9848), (0, .ref (q 0)), (1, .int z1)] [.int y9853]
          have b9854l := Int32.le_toInt y9853
          have b9854h := Int32.toInt_lt y9853
          exact g_iret hk hR rfl ⟨y9853, rfl, rfl⟩ dX11_whole_37
        · skip
          refine g_iload_n hk dX11_whole_27 rfl ?_
          exact g_iret hk hR rfl ⟨y9848, rfl, rfl⟩ dX11_whole_28
    · skip
      refine g_iconst (v := (-1)) hk dX11_whole_9 (by decide) ?_
      exact g_iret hk hR rfl ⟨(-1), rfl, rfl⟩ dX11_whole_10
def wo_k313_X8_append : List Cond := [Cond.fieldLink RX8 22 "WarpDesk$Stand" "size" "I", Cond.fieldLink RX8 9 "WarpDesk$Stand" "places" "[I"]
def wz_k313_X8_append : List Cond := .code yX8_append cX8_append 2 none :: (wo_k313_X8_append ++ (wsX80 ++ ([] : List Cond)))
theorem zg_k313_X8_append : ∀ w ∈ wz_k313_X8_append, goodWord w = true := zg_cons rfl (zg_app (by decide +kernel) (zg_app zgU_wsX80 zg_nil))
theorem zi_k313_X8_append : ∀ w ∈ wz_k313_X8_append, w ∈ lw_tbl := zi_cons zw_741 (zi_app (zi_cons zw_195 (zi_cons zw_194 zi_nil)) (zi_app inX8 zi_nil))
set_option maxHeartbeats 4000000 in
set_option maxRecDepth 100000 in
theorem k313_X8_append (l : Launch) (D : va_G) (zt : Nat × Nat × Nat × (Nat → Nat) × (Nat → Nat)) (q : Nat → Nat) (d : Nat → ClassId) (I : Nat → Int32) (A : Nat → Nat → Int32) (z1 : Int32) (hIv : IvX I A) : GM l D zt (tyX d) yX8_append wz_k313_X8_append ({ frames := 0, cells := 0, slots := 0, locals := 0 } : Room) [.ref (q 25), .int z1] (wX q d I A) (fun v _ w' => ∃ (I' : Nat → Int32) (A' : Nat → Nat → Int32), Md [22] I I' ∧ Md [15] A A' ∧ IvX I' A' ∧ v = none ∧ w' = wX q d I' A') 0 0 := by
  refine GM.of (cc := cX8_append) (maxL := 2) (ret := none) (own := RX8) (lv := [(0, .ref (q 25)), (1, .int z1)]) (by decide) rfl rfl (Nat.le_of_ble_eq_true rfl) rfl (fun κ sz hk hR hN => ?_)
  have hin8 : ∀ w ∈ u_ws RX8 TX8 4, w ∈ wz_k313_X8_append := fun w h => (List.mem_cons_of_mem _ (List.mem_append_right _ (List.mem_append_left _ h)))
  refine g_aload_n hk dX8_append_0 rfl ?_
  refine gX_i22 (v := (I 22)) hk hin8 (List.mem_cons_of_mem _ (List.mem_append_left _ (List.mem_of_getElem? (i := 0) rfl))) dX8_append_1 rfl ?_
  have b9868l := Int32.le_toInt (I 22)
  have b9868h := Int32.toInt_lt (I 22)
  refine g_if_lt (tgt := 39) (a := (I 22).toInt) hk dX8_append_4 (by decide) rfl (fun c9869 => ?_) (fun c9869 => ?_)
  · skip
    exact g_vret hk hR ⟨I, A, (show Md [22] I I from Md.rf), (show Md [15] A A from Md.rf), hIv, rfl, rfl⟩ dX8_append_39
  · skip
    refine g_aload_n hk dX8_append_7 rfl ?_
    refine gX_i22 (v := (I 22)) hk hin8 (List.mem_cons_of_mem _ (List.mem_append_left _ (List.mem_of_getElem? (i := 0) rfl))) dX8_append_8 rfl ?_
    refine g_aload_n hk dX8_append_11 rfl ?_
    refine gX_r25_0 hk hin8 (List.mem_cons_of_mem _ (List.mem_append_left _ (List.mem_of_getElem? (i := 1) rfl))) dX8_append_12 ?_
    refine nX_15 hk dX8_append_15 ?_
    refine g_icmp_ge (tgt := 39) (a := (I 22).toInt) (b := 160) hk dX8_append_16 (by decide) rfl rfl (fun c9870 => ?_) (fun c9870 => ?_)
    · skip
      exact g_vret hk hR ⟨I, A, (show Md [22] I I from Md.rf), (show Md [15] A A from Md.rf), hIv, rfl, rfl⟩ dX8_append_39
    · skip
      refine g_aload_n hk dX8_append_19 rfl ?_
      refine gX_r25_0 hk hin8 (List.mem_cons_of_mem _ (List.mem_append_left _ (List.mem_of_getElem? (i := 1) rfl))) dX8_append_20 ?_
      refine g_aload_n hk dX8_append_23 rfl ?_
      refine gX_i22 (v := (I 22)) hk hin8 (List.mem_cons_of_mem _ (List.mem_append_left _ (List.mem_of_getElem? (i := 0) rfl))) dX8_append_24 rfl ?_
      refine g_iload_n hk dX8_append_27 rfl ?_
      refine sX_15 (j := (I 22).toNatClampNeg) hk (vp_in_iff.mpr ⟨by omega, by omega⟩) rfl dX8_append_28 ?_
      refine g_aload_n hk dX8_append_29 rfl ?_
      refine g_dup hk dX8_append_30 rfl ?_
      refine gX_i22 (v := (I 22)) hk hin8 (List.mem_cons_of_mem _ (List.mem_append_left _ (List.mem_of_getElem? (i := 0) rfl))) dX8_append_31 rfl ?_
      refine g_iconst (v := 1) hk dX8_append_34 (by decide) ?_
      refine g_iadd hk dX8_append_35 ?_
      refine g_topi (fun y9871 ey9871 => ?_)
      have hy9871 : y9871.toInt = (I 22).toInt + 1 := i32_add ey9871 rfl rfl (by omega) (by omega)
      refine pX_i22 hk hin8 (List.mem_cons_of_mem _ (List.mem_append_left _ (List.mem_of_getElem? (i := 0) rfl))) dX8_append_36 ?_
      exact g_vret hk hR ⟨(upd I 22 y9871), (up3 A 15 ((I 22).toNatClampNeg) z1), (show Md [22] I (upd I 22 y9871) from (Md.up Md.rf rfl)), (show Md [15] A (up3 A 15 ((I 22).toNatClampNeg) z1) from (Md.up3 Md.rf rfl)), ⟨(IvX_f0 (I := I) (A := A) hIv), (IvX_f18 (I := I) (A := A) hIv), (IvX_f30 (I := I) (A := A) hIv), (IvX_f31 (I := I) (A := A) hIv), (IvX_a4 (I := I) (A := A) hIv), (IvX_a9 (I := I) (A := A) hIv), trivial⟩, rfl, rfl⟩ dX8_append_39
def wo_k312_X6_copyInto : List Cond := [Cond.fieldLink RX6 22 "WarpDesk$Stand" "size" "I", Cond.fieldLink RX6 19 "WarpDesk$Series" "size" "I", Cond.methodLink RX6 33 yX6_valueAt, Cond.instanceMethod yX6_valueAt, Cond.selects RX6 yX6_valueAt yX6_valueAt, Cond.initialized RX6, Cond.methodLink RX6 34 yX8_append, Cond.instanceMethod yX8_append, Cond.selects RX8 yX8_append yX8_append, Cond.initialized RX8]
def wz_k312_X6_copyInto : List Cond := .code yX6_copyInto cX6_copyInto 3 none :: (wo_k312_X6_copyInto ++ (wsX60 ++ (wsX80 ++ (wz_k179_X6_valueAt ++ (wz_k313_X8_append ++ ([] : List Cond))))))
theorem zg_k312_X6_copyInto : ∀ w ∈ wz_k312_X6_copyInto, goodWord w = true := zg_cons rfl (zg_app (by decide +kernel) (zg_app zgU_wsX60 (zg_app zgU_wsX80 (zg_app zg_k179_X6_valueAt (zg_app zg_k313_X8_append zg_nil)))))
theorem zi_k312_X6_copyInto : ∀ w ∈ wz_k312_X6_copyInto, w ∈ lw_tbl := zi_cons zw_1333 (zi_app (zi_cons zw_196 (zi_cons zw_282 (zi_cons zw_843 (zi_cons zw_807 (zi_cons zw_808 (zi_cons zw_109 (zi_cons zw_1334 (zi_cons zw_739 (zi_cons zw_740 (zi_cons zw_106 zi_nil)))))))))) (zi_app inX6 (zi_app inX8 (zi_app zi_k179_X6_valueAt (zi_app zi_k313_X8_append zi_nil)))))
set_option maxHeartbeats 4000000 in
set_option maxRecDepth 100000 in
theorem k312_X6_copyInto (l : Launch) (D : va_G) (zt : Nat × Nat × Nat × (Nat → Nat) × (Nat → Nat)) (q : Nat → Nat) (d : Nat → ClassId) (I : Nat → Int32) (A : Nat → Nat → Int32) (hIv : IvX I A) : GM l D zt (tyX d) yX6_copyInto wz_k312_X6_copyInto ({ frames := 1, cells := 0, slots := 0, locals := 21 } : Room) [.ref (q 13), .ref (q 25)] (wX q d I A) (fun v _ w' => ∃ (I' : Nat → Int32) (A' : Nat → Nat → Int32), Md [22] I I' ∧ Md [15] A A' ∧ IvX I' A' ∧ v = none ∧ w' = wX q d I' A') 0 0 := by
  refine GM.of (cc := cX6_copyInto) (maxL := 3) (ret := none) (own := RX6) (lv := [(0, .ref (q 13)), (1, .ref (q 25))]) (by decide) rfl rfl (Nat.le_of_ble_eq_true rfl) rfl (fun κ sz hk hR hN => ?_)
  have hin6 : ∀ w ∈ u_ws RX6 TX6 3, w ∈ wz_k312_X6_copyInto := fun w h => (List.mem_cons_of_mem _ (List.mem_append_right _ (List.mem_append_left _ h)))
  have hin8 : ∀ w ∈ u_ws RX8 TX8 4, w ∈ wz_k312_X6_copyInto := fun w h => (List.mem_cons_of_mem _ (List.mem_append_right _ (List.mem_append_right _ (List.mem_append_left _ h))))
  refine g_aload_n hk dX6_copyInto_0 rfl ?_
  refine g_iconst (v := 0) hk dX6_copyInto_1 (by decide) ?_
  refine pX_i22 hk hin8 (List.mem_cons_of_mem _ (List.mem_append_left _ (List.mem_of_getElem? (i := 0) rfl))) dX6_copyInto_2 ?_
  refine g_iconst (v := 0) hk dX6_copyInto_5 (by decide) ?_
  refine g_istore_n (lv' := [(2, .int 0), (0, .ref (q 13)), (1, .ref (q 25))]) hk dX6_copyInto_6 (by decide) rfl ?_
  have lp9895 : ∀ (n9896 : Nat) (x9860 : Int32) (I9863 : Nat → Int32) (A9863 : Nat → Nat → Int32), (Md [22] (upd I 22 0) I9863) → (Md [15] A A9863) → (IvX I9863 A9863) → (0 ≤ x9860.toInt) → (x9860.toInt ≤ 160) → (161 - x9860.toInt < (n9896 : Int)) → (0 < n9896) → GW κ 3 0 0 (wX q d I9863 A9863) 7 [(2, .int x9860), (0, .ref (q 13)), (1, .ref (q 25))] [] := by
    intro n9896
    induction n9896 with
    | zero =>
      intro x9860 I9863 A9863 hI9863 hA9863 hV9863 h9893 h9894 m9897 m9897z
      exact absurd m9897z (Nat.lt_irrefl 0)
    | succ n9896 ih9898 =>
      intro x9860 I9863 A9863 hI9863 hA9863 hV9863 h9893 h9894 m9897 m9897z
      refine g_iload_n hk dX6_copyInto_7 rfl ?_
      refine g_aload_n hk dX6_copyInto_8 rfl ?_
      refine gX_i18 (v := (I 18)) hk hin6 (List.mem_cons_of_mem _ (List.mem_append_left _ (List.mem_of_getElem? (i := 1) rfl))) dX6_copyInto_9 (hI9863 18 rfl) ?_
      have f9899 := IvX_f18 hIv
      refine g_icmp_ge (tgt := 30) (a := x9860.toInt) (b := (I 18).toInt) hk dX6_copyInto_12 (by decide) rfl rfl (fun c9900 => ?_) (fun c9900 => ?_)
      · skip
        exact g_vret hk hR ⟨I9863, A9863, (show Md [22] I I9863 from (Md.tr (Md.up Md.rf rfl) hI9863 rfl)), (show Md [15] A A9863 from (Md.tr Md.rf hA9863 rfl)), hV9863, rfl, rfl⟩ dX6_copyInto_30
      · skip
        refine g_aload_n hk dX6_copyInto_15 rfl ?_
        refine g_aload_n hk dX6_copyInto_16 rfl ?_
        refine g_iload_n hk dX6_copyInto_17 rfl ?_
        refine g_callV (n := 1) hk (k179_X6_valueAt l D zt q d I9863 A9863 x9860 hV9863) (SP.same _) (fun _ h => h) (gi_V (List.mem_cons_of_mem _ (List.mem_append_left _ (List.mem_of_getElem? (i := 2) rfl))) (List.mem_cons_of_mem _ (List.mem_append_left _ (List.mem_of_getElem? (i := 3) rfl))) (List.mem_cons_of_mem _ (List.mem_append_left _ (List.mem_of_getElem? (i := 4) rfl))) (List.mem_cons_of_mem _ (List.mem_append_left _ (List.mem_of_getElem? (i := 5) rfl))) (gi_sub (fun w h => (List.mem_cons_of_mem _ (List.mem_append_right _ (List.mem_append_right _ (List.mem_append_right _ (List.mem_append_left _ h)))))) zg_k179_X6_valueAt)) rfl rfl rfl (by decide +kernel) ⟨Nat.le_of_ble_eq_true rfl, Nat.le_of_ble_eq_true rfl⟩ 13 rfl rfl rfl rfl (Nat.le_of_ble_eq_true rfl) ⟨Nat.le_of_ble_eq_true rfl, Nat.le_of_ble_eq_true rfl⟩ dX6_copyInto_18 (fun v ty' w' hp hk' => ?_)
        obtain ⟨y9901, rfl, rfl⟩ := hp
        show GW κ 3 0 0 (wX q d I9863 A9863) 21 [(2, .int x9860), (0, .ref (q 13)), (1, .ref (q 25))] [.int y9901, .ref (q 25)]
        refine g_callV (n := 1) hk (k313_X8_append l D zt q d I9863 A9863 y9901 hV9863) (SP.same _) (fun _ h => h) (gi_V (List.mem_cons_of_mem _ (List.mem_append_left _ (List.mem_of_getElem? (i := 6) rfl))) (List.mem_cons_of_mem _ (List.mem_append_left _ (List.mem_of_getElem? (i := 7) rfl))) (List.mem_cons_of_mem _ (List.mem_append_left _ (List.mem_of_getElem? (i := 8) rfl))) (List.mem_cons_of_mem _ (List.mem_append_left _ (List.mem_of_getElem? (i := 9) rfl))) (gi_sub (fun w h => (List.mem_cons_of_mem _ (List.mem_append_right _ (List.mem_append_right _ (List.mem_append_right _ (List.mem_append_right _ (List.mem_append_left _ h))))))) zg_k313_X8_append)) rfl rfl rfl (by decide +kernel) ⟨Nat.le_of_ble_eq_true rfl, Nat.le_of_ble_eq_true rfl⟩ 25 rfl rfl rfl rfl (Nat.le_of_ble_eq_true rfl) ⟨Nat.le_of_ble_eq_true rfl, Nat.le_of_ble_eq_true rfl⟩ dX6_copyInto_21 (fun v ty' w' hp hk' => ?_)
        obtain ⟨I9903, A9903, hI9903, hA9903, hV9903, rfl, rfl⟩ := hp
        show GW κ 3 0 0 (wX q d I9903 A9903) 24 [(2, .int x9860), (0, .ref (q 13)), (1, .ref (q 25))] []
        obtain ⟨y9904, ey9904⟩ : ∃ y : Int32, y = x9860 + Int32.ofInt 1 := ⟨_, rfl⟩
        have hy9904 : y9904.toInt = x9860.toInt + 1 := i32_add ey9904 rfl (by decide) (by omega) (by omega)
        refine g_iinc (v := y9904) (lv' := [(2, .int y9904), (0, .ref (q 13)), (1, .ref (q 25))]) hk 0 dX6_copyInto_24 rfl ey9904.symm (by decide) rfl ?_
        refine g_goto (tgt := 7) hk dX6_copyInto_27 (by decide) ?_
        exact g_lv (List.forall_mem_cons.mpr ⟨List.mem_of_getElem? (i := 0) rfl, (List.forall_mem_cons.mpr ⟨List.mem_of_getElem? (i := 1) rfl, (List.forall_mem_cons.mpr ⟨List.mem_of_getElem? (i := 2) rfl, (fun _ h => absurd h List.not_mem_nil)⟩)⟩)⟩) (ih9898 y9904 I9903 A9903 (show Md [22] (upd I 22 0) I9903 from Md.tr hI9863 (show Md [22] I9863 I9903 from (Md.tr Md.rf hI9903 rfl)) rfl) (show Md [15] A A9903 from Md.tr hA9863 (show Md [15] A9863 A9903 from (Md.tr Md.rf hA9903 rfl)) rfl) hV9903 (by omega) (by omega) (by omega) (by omega))
  have k9906 : (0 : Int32).toInt = 0 := rfl
  obtain ⟨n9905, n9905a, n9905b⟩ : ∃ n : Nat, 161 - 0 < (n : Int) ∧ 0 < n := ⟨((161 - 0 : Int)).toNat + 1, by omega, by omega⟩
  exact lp9895 n9905 0 (upd I 22 0) A Md.rf Md.rf ⟨(IvX_f0 (I := I) (A := A) hIv), (IvX_f18 (I := I) (A := A) hIv), (IvX_f30 (I := I) (A := A) hIv), (IvX_f31 (I := I) (A := A) hIv), (IvX_a4 (I := I) (A := A) hIv), (IvX_a9 (I := I) (A := A) hIv), trivial⟩ (by omega) (by omega) n9905a n9905b
def wo_k314_X7_takeFrom : List Cond := [Cond.fieldLink RX7 20 "WarpDesk$Settings" "values" "[I", Cond.methodLink RX7 33 yX7_valueOf, Cond.instanceMethod yX7_valueOf, Cond.selects RX7 yX7_valueOf yX7_valueOf, Cond.initialized RX7]
def wz_k314_X7_takeFrom : List Cond := .code yX7_takeFrom cX7_takeFrom 3 none :: (wo_k314_X7_takeFrom ++ (wsX70 ++ (wz_k194_X7_valueOf ++ ([] : List Cond))))
theorem zg_k314_X7_takeFrom : ∀ w ∈ wz_k314_X7_takeFrom, goodWord w = true := zg_cons rfl (zg_app (by decide +kernel) (zg_app zgU_wsX70 (zg_app zg_k194_X7_valueOf zg_nil)))
theorem zi_k314_X7_takeFrom : ∀ w ∈ wz_k314_X7_takeFrom, w ∈ lw_tbl := zi_cons zw_784 (zi_app (zi_cons zw_190 (zi_cons zw_785 (zi_cons zw_786 (zi_cons zw_787 (zi_cons zw_107 zi_nil))))) (zi_app inX7 (zi_app zi_k194_X7_valueOf zi_nil)))
set_option maxHeartbeats 4000000 in
set_option maxRecDepth 100000 in
theorem k314_X7_takeFrom (l : Launch) (D : va_G) (zt : Nat × Nat × Nat × (Nat → Nat) × (Nat → Nat)) (q : Nat → Nat) (d : Nat → ClassId) (I : Nat → Int32) (A : Nat → Nat → Int32) (hIv : IvX I A) : GM l D zt (tyX d) yX7_takeFrom wz_k314_X7_takeFrom ({ frames := 1, cells := 0, slots := 0, locals := 21 } : Room) [.ref (q 27), .ref (q 18)] (wX q d I A) (fun v _ w' => ∃ (I' : Nat → Int32) (A' : Nat → Nat → Int32), Md [] I I' ∧ Md [16] A A' ∧ IvX I' A' ∧ v = none ∧ w' = wX q d I' A') 0 0 := by
  refine GM.of (cc := cX7_takeFrom) (maxL := 3) (ret := none) (own := RX7) (lv := [(0, .ref (q 27)), (1, .ref (q 18))]) (by decide) rfl rfl (Nat.le_of_ble_eq_true rfl) rfl (fun κ sz hk hR hN => ?_)
  have hin7 : ∀ w ∈ u_ws RX7 TX7 1, w ∈ wz_k314_X7_takeFrom := fun w h => (List.mem_cons_of_mem _ (List.mem_append_right _ (List.mem_append_left _ h)))
  refine g_iconst (v := 0) hk dX7_takeFrom_0 (by decide) ?_
  refine g_istore_n (lv' := [(2, .int 0), (0, .ref (q 27)), (1, .ref (q 18))]) hk dX7_takeFrom_1 (by decide) rfl ?_
  have lp9926 : ∀ (n9927 : Nat) (x9909 : Int32) (I9912 : Nat → Int32) (A9912 : Nat → Nat → Int32), (Md [] I I9912) → (Md [16] A A9912) → (IvX I9912 A9912) → (0 ≤ x9909.toInt) → (x9909.toInt ≤ 4) → (5 - x9909.toInt < (n9927 : Int)) → (0 < n9927) → GW κ 3 0 0 (wX q d I9912 A9912) 2 [(2, .int x9909), (0, .ref (q 27)), (1, .ref (q 18))] [] := by
    intro n9927
    induction n9927 with
    | zero =>
      intro x9909 I9912 A9912 hI9912 hA9912 hV9912 h9924 h9925 m9928 m9928z
      exact absurd m9928z (Nat.lt_irrefl 0)
    | succ n9927 ih9929 =>
      intro x9909 I9912 A9912 hI9912 hA9912 hV9912 h9924 h9925 m9928 m9928z
      refine g_iload_n hk dX7_takeFrom_2 rfl ?_
      refine g_aload_n hk dX7_takeFrom_3 rfl ?_
      refine gX_r27_0 hk hin7 (List.mem_cons_of_mem _ (List.mem_append_left _ (List.mem_of_getElem? (i := 0) rfl))) dX7_takeFrom_4 ?_
      refine nX_16 hk dX7_takeFrom_7 ?_
      refine g_icmp_ge (tgt := 28) (a := x9909.toInt) (b := 4) hk dX7_takeFrom_8 (by decide) rfl rfl (fun c9930 => ?_) (fun c9930 => ?_)
      · skip
        exact g_vret hk hR ⟨I9912, A9912, (show Md [] I I9912 from (Md.tr Md.rf hI9912 rfl)), (show Md [16] A A9912 from (Md.tr Md.rf hA9912 rfl)), hV9912, rfl, rfl⟩ dX7_takeFrom_28
      · skip
        refine g_aload_n hk dX7_takeFrom_11 rfl ?_
        refine gX_r27_0 hk hin7 (List.mem_cons_of_mem _ (List.mem_append_left _ (List.mem_of_getElem? (i := 0) rfl))) dX7_takeFrom_12 ?_
        refine g_iload_n hk dX7_takeFrom_15 rfl ?_
        refine g_aload_n hk dX7_takeFrom_16 rfl ?_
        refine g_iload_n hk dX7_takeFrom_17 rfl ?_
        refine g_callV (n := 1) hk (k194_X7_valueOf l D zt q d I9912 A9912 x9909 hV9912) (SP.same _) (fun _ h => h) (gi_V (List.mem_cons_of_mem _ (List.mem_append_left _ (List.mem_of_getElem? (i := 1) rfl))) (List.mem_cons_of_mem _ (List.mem_append_left _ (List.mem_of_getElem? (i := 2) rfl))) (List.mem_cons_of_mem _ (List.mem_append_left _ (List.mem_of_getElem? (i := 3) rfl))) (List.mem_cons_of_mem _ (List.mem_append_left _ (List.mem_of_getElem? (i := 4) rfl))) (gi_sub (fun w h => (List.mem_cons_of_mem _ (List.mem_append_right _ (List.mem_append_right _ (List.mem_append_left _ h))))) zg_k194_X7_valueOf)) rfl rfl rfl (by decide +kernel) ⟨Nat.le_of_ble_eq_true rfl, Nat.le_of_ble_eq_true rfl⟩ 18 rfl rfl rfl rfl (Nat.le_of_ble_eq_true rfl) ⟨Nat.le_of_ble_eq_true rfl, Nat.le_of_ble_eq_true rfl⟩ dX7_takeFrom_18 (fun v ty' w' hp hk' => ?_)
        obtain ⟨y9931, rfl, rfl⟩ := hp
        show GW κ 3 0 0 (wX q d I9912 A9912) 21 [(2, .int x9909), (0, .ref (q 27)), (1, .ref (q 18))] [.int y9931, .int x9909, .ref (q 28)]
        refine sX_16 (j := x9909.toNatClampNeg) hk (vp_in_iff.mpr ⟨by omega, by omega⟩) rfl dX7_takeFrom_21 ?_
        obtain ⟨y9932, ey9932⟩ : ∃ y : Int32, y = x9909 + Int32.ofInt 1 := ⟨_, rfl⟩
        have hy9932 : y9932.toInt = x9909.toInt + 1 := i32_add ey9932 rfl (by decide) (by omega) (by omega)
        refine g_iinc (v := y9932) (lv' := [(2, .int y9932), (0, .ref (q 27)), (1, .ref (q 18))]) hk 0 dX7_takeFrom_22 rfl ey9932.symm (by decide) rfl ?_
        refine g_goto (tgt := 2) hk dX7_takeFrom_25 (by decide) ?_
        exact g_lv (List.forall_mem_cons.mpr ⟨List.mem_of_getElem? (i := 0) rfl, (List.forall_mem_cons.mpr ⟨List.mem_of_getElem? (i := 1) rfl, (List.forall_mem_cons.mpr ⟨List.mem_of_getElem? (i := 2) rfl, (fun _ h => absurd h List.not_mem_nil)⟩)⟩)⟩) (ih9929 y9932 I9912 (up3 A9912 16 (x9909.toNatClampNeg) y9931) (show Md [] I I9912 from Md.tr hI9912 (show Md [] I9912 I9912 from Md.rf) rfl) (show Md [16] A (up3 A9912 16 (x9909.toNatClampNeg) y9931) from Md.tr hA9912 (show Md [16] A9912 (up3 A9912 16 (x9909.toNatClampNeg) y9931) from (Md.up3 Md.rf rfl)) rfl) ⟨(IvX_f0 (I := I9912) (A := A9912) hV9912), (IvX_f18 (I := I9912) (A := A9912) hV9912), (IvX_f30 (I := I9912) (A := A9912) hV9912), (IvX_f31 (I := I9912) (A := A9912) hV9912), (IvX_a4 (I := I9912) (A := A9912) hV9912), (IvX_a9 (I := I9912) (A := A9912) hV9912), trivial⟩ (by omega) (by omega) (by omega) (by omega))
  have k9934 : (0 : Int32).toInt = 0 := rfl
  obtain ⟨n9933, n9933a, n9933b⟩ : ∃ n : Nat, 5 - 0 < (n : Int) ∧ 0 < n := ⟨((5 - 0 : Int)).toNat + 1, by omega, by omega⟩
  exact lp9926 n9933 0 I A Md.rf Md.rf hIv (by omega) (by omega) n9933a n9933b
def wo_k316_X8_append : List Cond := [Cond.fieldLink RX8 22 "WarpDesk$Stand" "size" "I", Cond.fieldLink RX8 9 "WarpDesk$Stand" "places" "[I"]
def wz_k316_X8_append : List Cond := .code yX8_append cX8_append 2 none :: (wo_k316_X8_append ++ (wsX80 ++ ([] : List Cond)))
theorem zg_k316_X8_append : ∀ w ∈ wz_k316_X8_append, goodWord w = true := zg_cons rfl (zg_app (by decide +kernel) (zg_app zgU_wsX80 zg_nil))
theorem zi_k316_X8_append : ∀ w ∈ wz_k316_X8_append, w ∈ lw_tbl := zi_cons zw_741 (zi_app (zi_cons zw_195 (zi_cons zw_194 zi_nil)) (zi_app inX8 zi_nil))
set_option maxHeartbeats 4000000 in
set_option maxRecDepth 100000 in
theorem k316_X8_append (l : Launch) (D : va_G) (zt : Nat × Nat × Nat × (Nat → Nat) × (Nat → Nat)) (q : Nat → Nat) (d : Nat → ClassId) (I : Nat → Int32) (A : Nat → Nat → Int32) (z1 : Int32) (hIv : IvX I A) : GM l D zt (tyX d) yX8_append wz_k316_X8_append ({ frames := 0, cells := 0, slots := 0, locals := 0 } : Room) [.ref (q 29), .int z1] (wX q d I A) (fun v _ w' => ∃ (I' : Nat → Int32) (A' : Nat → Nat → Int32), Md [24] I I' ∧ Md [17] A A' ∧ IvX I' A' ∧ v = none ∧ w' = wX q d I' A') 0 0 := by
  refine GM.of (cc := cX8_append) (maxL := 2) (ret := none) (own := RX8) (lv := [(0, .ref (q 29)), (1, .int z1)]) (by decide) rfl rfl (Nat.le_of_ble_eq_true rfl) rfl (fun κ sz hk hR hN => ?_)
  have hin8 : ∀ w ∈ u_ws RX8 TX8 4, w ∈ wz_k316_X8_append := fun w h => (List.mem_cons_of_mem _ (List.mem_append_right _ (List.mem_append_left _ h)))
  refine g_aload_n hk dX8_append_0 rfl ?_
  refine gX_i24 (v := (I 24)) hk hin8 (List.mem_cons_of_mem _ (List.mem_append_left _ (List.mem_of_getElem? (i := 0) rfl))) dX8_append_1 rfl ?_
  have b9947l := Int32.le_toInt (I 24)
  have b9947h := Int32.toInt_lt (I 24)
  refine g_if_lt (tgt := 39) (a := (I 24).toInt) hk dX8_append_4 (by decide) rfl (fun c9948 => ?_) (fun c9948 => ?_)
  · skip
    exact g_vret hk hR ⟨I, A, (show Md [24] I I from Md.rf), (show Md [17] A A from Md.rf), hIv, rfl, rfl⟩ dX8_append_39
  · skip
    refine g_aload_n hk dX8_append_7 rfl ?_
    refine gX_i24 (v := (I 24)) hk hin8 (List.mem_cons_of_mem _ (List.mem_append_left _ (List.mem_of_getElem? (i := 0) rfl))) dX8_append_8 rfl ?_
    refine g_aload_n hk dX8_append_11 rfl ?_
    refine gX_r29_0 hk hin8 (List.mem_cons_of_mem _ (List.mem_append_left _ (List.mem_of_getElem? (i := 1) rfl))) dX8_append_12 ?_
    refine nX_17 hk dX8_append_15 ?_
    refine g_icmp_ge (tgt := 39) (a := (I 24).toInt) (b := 160) hk dX8_append_16 (by decide) rfl rfl (fun c9949 => ?_) (fun c9949 => ?_)
    · skip
      exact g_vret hk hR ⟨I, A, (show Md [24] I I from Md.rf), (show Md [17] A A from Md.rf), hIv, rfl, rfl⟩ dX8_append_39
    · skip
      refine g_aload_n hk dX8_append_19 rfl ?_
      refine gX_r29_0 hk hin8 (List.mem_cons_of_mem _ (List.mem_append_left _ (List.mem_of_getElem? (i := 1) rfl))) dX8_append_20 ?_
      refine g_aload_n hk dX8_append_23 rfl ?_
      refine gX_i24 (v := (I 24)) hk hin8 (List.mem_cons_of_mem _ (List.mem_append_left _ (List.mem_of_getElem? (i := 0) rfl))) dX8_append_24 rfl ?_
      refine g_iload_n hk dX8_append_27 rfl ?_
      refine sX_17 (j := (I 24).toNatClampNeg) hk (vp_in_iff.mpr ⟨by omega, by omega⟩) rfl dX8_append_28 ?_
      refine g_aload_n hk dX8_append_29 rfl ?_
      refine g_dup hk dX8_append_30 rfl ?_
      refine gX_i24 (v := (I 24)) hk hin8 (List.mem_cons_of_mem _ (List.mem_append_left _ (List.mem_of_getElem? (i := 0) rfl))) dX8_append_31 rfl ?_
      refine g_iconst (v := 1) hk dX8_append_34 (by decide) ?_
      refine g_iadd hk dX8_append_35 ?_
      refine g_topi (fun y9950 ey9950 => ?_)
      have hy9950 : y9950.toInt = (I 24).toInt + 1 := i32_add ey9950 rfl rfl (by omega) (by omega)
      refine pX_i24 hk hin8 (List.mem_cons_of_mem _ (List.mem_append_left _ (List.mem_of_getElem? (i := 0) rfl))) dX8_append_36 ?_
      exact g_vret hk hR ⟨(upd I 24 y9950), (up3 A 17 ((I 24).toNatClampNeg) z1), (show Md [24] I (upd I 24 y9950) from (Md.up Md.rf rfl)), (show Md [17] A (up3 A 17 ((I 24).toNatClampNeg) z1) from (Md.up3 Md.rf rfl)), ⟨(IvX_f0 (I := I) (A := A) hIv), (IvX_f18 (I := I) (A := A) hIv), (IvX_f30 (I := I) (A := A) hIv), (IvX_f31 (I := I) (A := A) hIv), (IvX_a4 (I := I) (A := A) hIv), (IvX_a9 (I := I) (A := A) hIv), trivial⟩, rfl, rfl⟩ dX8_append_39
def wo_k315_X6_copyInto : List Cond := [Cond.fieldLink RX6 22 "WarpDesk$Stand" "size" "I", Cond.fieldLink RX6 19 "WarpDesk$Series" "size" "I", Cond.methodLink RX6 33 yX6_valueAt, Cond.instanceMethod yX6_valueAt, Cond.selects RX6 yX6_valueAt yX6_valueAt, Cond.initialized RX6, Cond.methodLink RX6 34 yX8_append, Cond.instanceMethod yX8_append, Cond.selects RX8 yX8_append yX8_append, Cond.initialized RX8]
def wz_k315_X6_copyInto : List Cond := .code yX6_copyInto cX6_copyInto 3 none :: (wo_k315_X6_copyInto ++ (wsX60 ++ (wsX80 ++ (wz_k179_X6_valueAt ++ (wz_k316_X8_append ++ ([] : List Cond))))))
theorem zg_k315_X6_copyInto : ∀ w ∈ wz_k315_X6_copyInto, goodWord w = true := zg_cons rfl (zg_app (by decide +kernel) (zg_app zgU_wsX60 (zg_app zgU_wsX80 (zg_app zg_k179_X6_valueAt (zg_app zg_k316_X8_append zg_nil)))))
theorem zi_k315_X6_copyInto : ∀ w ∈ wz_k315_X6_copyInto, w ∈ lw_tbl := zi_cons zw_1333 (zi_app (zi_cons zw_196 (zi_cons zw_282 (zi_cons zw_843 (zi_cons zw_807 (zi_cons zw_808 (zi_cons zw_109 (zi_cons zw_1334 (zi_cons zw_739 (zi_cons zw_740 (zi_cons zw_106 zi_nil)))))))))) (zi_app inX6 (zi_app inX8 (zi_app zi_k179_X6_valueAt (zi_app zi_k316_X8_append zi_nil)))))
set_option maxHeartbeats 4000000 in
set_option maxRecDepth 100000 in
theorem k315_X6_copyInto (l : Launch) (D : va_G) (zt : Nat × Nat × Nat × (Nat → Nat) × (Nat → Nat)) (q : Nat → Nat) (d : Nat → ClassId) (I : Nat → Int32) (A : Nat → Nat → Int32) (hIv : IvX I A) : GM l D zt (tyX d) yX6_copyInto wz_k315_X6_copyInto ({ frames := 1, cells := 0, slots := 0, locals := 21 } : Room) [.ref (q 13), .ref (q 29)] (wX q d I A) (fun v _ w' => ∃ (I' : Nat → Int32) (A' : Nat → Nat → Int32), Md [24] I I' ∧ Md [17] A A' ∧ IvX I' A' ∧ v = none ∧ w' = wX q d I' A') 0 0 := by
  refine GM.of (cc := cX6_copyInto) (maxL := 3) (ret := none) (own := RX6) (lv := [(0, .ref (q 13)), (1, .ref (q 29))]) (by decide) rfl rfl (Nat.le_of_ble_eq_true rfl) rfl (fun κ sz hk hR hN => ?_)
  have hin6 : ∀ w ∈ u_ws RX6 TX6 3, w ∈ wz_k315_X6_copyInto := fun w h => (List.mem_cons_of_mem _ (List.mem_append_right _ (List.mem_append_left _ h)))
  have hin8 : ∀ w ∈ u_ws RX8 TX8 4, w ∈ wz_k315_X6_copyInto := fun w h => (List.mem_cons_of_mem _ (List.mem_append_right _ (List.mem_append_right _ (List.mem_append_left _ h))))
  refine g_aload_n hk dX6_copyInto_0 rfl ?_
  refine g_iconst (v := 0) hk dX6_copyInto_1 (by decide) ?_
  refine pX_i24 hk hin8 (List.mem_cons_of_mem _ (List.mem_append_left _ (List.mem_of_getElem? (i := 0) rfl))) dX6_copyInto_2 ?_
  refine g_iconst (v := 0) hk dX6_copyInto_5 (by decide) ?_
  refine g_istore_n (lv' := [(2, .int 0), (0, .ref (q 13)), (1, .ref (q 29))]) hk dX6_copyInto_6 (by decide) rfl ?_
  have lp9974 : ∀ (n9975 : Nat) (x9939 : Int32) (I9942 : Nat → Int32) (A9942 : Nat → Nat → Int32), (Md [24] (upd I 24 0) I9942) → (Md [17] A A9942) → (IvX I9942 A9942) → (0 ≤ x9939.toInt) → (x9939.toInt ≤ 160) → (161 - x9939.toInt < (n9975 : Int)) → (0 < n9975) → GW κ 3 0 0 (wX q d I9942 A9942) 7 [(2, .int x9939), (0, .ref (q 13)), (1, .ref (q 29))] [] := by
    intro n9975
    induction n9975 with
    | zero =>
      intro x9939 I9942 A9942 hI9942 hA9942 hV9942 h9972 h9973 m9976 m9976z
      exact absurd m9976z (Nat.lt_irrefl 0)
    | succ n9975 ih9977 =>
      intro x9939 I9942 A9942 hI9942 hA9942 hV9942 h9972 h9973 m9976 m9976z
      refine g_iload_n hk dX6_copyInto_7 rfl ?_
      refine g_aload_n hk dX6_copyInto_8 rfl ?_
      refine gX_i18 (v := (I 18)) hk hin6 (List.mem_cons_of_mem _ (List.mem_append_left _ (List.mem_of_getElem? (i := 1) rfl))) dX6_copyInto_9 (hI9942 18 rfl) ?_
      have f9978 := IvX_f18 hIv
      refine g_icmp_ge (tgt := 30) (a := x9939.toInt) (b := (I 18).toInt) hk dX6_copyInto_12 (by decide) rfl rfl (fun c9979 => ?_) (fun c9979 => ?_)
      · skip
        exact g_vret hk hR ⟨I9942, A9942, (show Md [24] I I9942 from (Md.tr (Md.up Md.rf rfl) hI9942 rfl)), (show Md [17] A A9942 from (Md.tr Md.rf hA9942 rfl)), hV9942, rfl, rfl⟩ dX6_copyInto_30
      · skip
        refine g_aload_n hk dX6_copyInto_15 rfl ?_
        refine g_aload_n hk dX6_copyInto_16 rfl ?_
        refine g_iload_n hk dX6_copyInto_17 rfl ?_
        refine g_callV (n := 1) hk (k179_X6_valueAt l D zt q d I9942 A9942 x9939 hV9942) (SP.same _) (fun _ h => h) (gi_V (List.mem_cons_of_mem _ (List.mem_append_left _ (List.mem_of_getElem? (i := 2) rfl))) (List.mem_cons_of_mem _ (List.mem_append_left _ (List.mem_of_getElem? (i := 3) rfl))) (List.mem_cons_of_mem _ (List.mem_append_left _ (List.mem_of_getElem? (i := 4) rfl))) (List.mem_cons_of_mem _ (List.mem_append_left _ (List.mem_of_getElem? (i := 5) rfl))) (gi_sub (fun w h => (List.mem_cons_of_mem _ (List.mem_append_right _ (List.mem_append_right _ (List.mem_append_right _ (List.mem_append_left _ h)))))) zg_k179_X6_valueAt)) rfl rfl rfl (by decide +kernel) ⟨Nat.le_of_ble_eq_true rfl, Nat.le_of_ble_eq_true rfl⟩ 13 rfl rfl rfl rfl (Nat.le_of_ble_eq_true rfl) ⟨Nat.le_of_ble_eq_true rfl, Nat.le_of_ble_eq_true rfl⟩ dX6_copyInto_18 (fun v ty' w' hp hk' => ?_)
        obtain ⟨y9980, rfl, rfl⟩ := hp
        show GW κ 3 0 0 (wX q d I9942 A9942) 21 [(2, .int x9939), (0, .ref (q 13)), (1, .ref (q 29))] [.int y9980, .ref (q 29)]
        refine g_callV (n := 1) hk (k316_X8_append l D zt q d I9942 A9942 y9980 hV9942) (SP.same _) (fun _ h => h) (gi_V (List.mem_cons_of_mem _ (List.mem_append_left _ (List.mem_of_getElem? (i := 6) rfl))) (List.mem_cons_of_mem _ (List.mem_append_left _ (List.mem_of_getElem? (i := 7) rfl))) (List.mem_cons_of_mem _ (List.mem_append_left _ (List.mem_of_getElem? (i := 8) rfl))) (List.mem_cons_of_mem _ (List.mem_append_left _ (List.mem_of_getElem? (i := 9) rfl))) (gi_sub (fun w h => (List.mem_cons_of_mem _ (List.mem_append_right _ (List.mem_append_right _ (List.mem_append_right _ (List.mem_append_right _ (List.mem_append_left _ h))))))) zg_k316_X8_append)) rfl rfl rfl (by decide +kernel) ⟨Nat.le_of_ble_eq_true rfl, Nat.le_of_ble_eq_true rfl⟩ 29 rfl rfl rfl rfl (Nat.le_of_ble_eq_true rfl) ⟨Nat.le_of_ble_eq_true rfl, Nat.le_of_ble_eq_true rfl⟩ dX6_copyInto_21 (fun v ty' w' hp hk' => ?_)
        obtain ⟨I9982, A9982, hI9982, hA9982, hV9982, rfl, rfl⟩ := hp
        show GW κ 3 0 0 (wX q d I9982 A9982) 24 [(2, .int x9939), (0, .ref (q 13)), (1, .ref (q 29))] []
        obtain ⟨y9983, ey9983⟩ : ∃ y : Int32, y = x9939 + Int32.ofInt 1 := ⟨_, rfl⟩
        have hy9983 : y9983.toInt = x9939.toInt + 1 := i32_add ey9983 rfl (by decide) (by omega) (by omega)
        refine g_iinc (v := y9983) (lv' := [(2, .int y9983), (0, .ref (q 13)), (1, .ref (q 29))]) hk 0 dX6_copyInto_24 rfl ey9983.symm (by decide) rfl ?_
        refine g_goto (tgt := 7) hk dX6_copyInto_27 (by decide) ?_
        exact g_lv (List.forall_mem_cons.mpr ⟨List.mem_of_getElem? (i := 0) rfl, (List.forall_mem_cons.mpr ⟨List.mem_of_getElem? (i := 1) rfl, (List.forall_mem_cons.mpr ⟨List.mem_of_getElem? (i := 2) rfl, (fun _ h => absurd h List.not_mem_nil)⟩)⟩)⟩) (ih9977 y9983 I9982 A9982 (show Md [24] (upd I 24 0) I9982 from Md.tr hI9942 (show Md [24] I9942 I9982 from (Md.tr Md.rf hI9982 rfl)) rfl) (show Md [17] A A9982 from Md.tr hA9942 (show Md [17] A9942 A9982 from (Md.tr Md.rf hA9982 rfl)) rfl) hV9982 (by omega) (by omega) (by omega) (by omega))
  have k9985 : (0 : Int32).toInt = 0 := rfl
  obtain ⟨n9984, n9984a, n9984b⟩ : ∃ n : Nat, 161 - 0 < (n : Int) ∧ 0 < n := ⟨((161 - 0 : Int)).toNat + 1, by omega, by omega⟩
  exact lp9974 n9984 0 (upd I 24 0) A Md.rf Md.rf ⟨(IvX_f0 (I := I) (A := A) hIv), (IvX_f18 (I := I) (A := A) hIv), (IvX_f30 (I := I) (A := A) hIv), (IvX_f31 (I := I) (A := A) hIv), (IvX_a4 (I := I) (A := A) hIv), (IvX_a9 (I := I) (A := A) hIv), trivial⟩ (by omega) (by omega) n9984a n9984b
def wo_k317_X7_takeFrom : List Cond := [Cond.fieldLink RX7 20 "WarpDesk$Settings" "values" "[I", Cond.methodLink RX7 33 yX7_valueOf, Cond.instanceMethod yX7_valueOf, Cond.selects RX7 yX7_valueOf yX7_valueOf, Cond.initialized RX7]
def wz_k317_X7_takeFrom : List Cond := .code yX7_takeFrom cX7_takeFrom 3 none :: (wo_k317_X7_takeFrom ++ (wsX70 ++ (wz_k194_X7_valueOf ++ ([] : List Cond))))
theorem zg_k317_X7_takeFrom : ∀ w ∈ wz_k317_X7_takeFrom, goodWord w = true := zg_cons rfl (zg_app (by decide +kernel) (zg_app zgU_wsX70 (zg_app zg_k194_X7_valueOf zg_nil)))
theorem zi_k317_X7_takeFrom : ∀ w ∈ wz_k317_X7_takeFrom, w ∈ lw_tbl := zi_cons zw_784 (zi_app (zi_cons zw_190 (zi_cons zw_785 (zi_cons zw_786 (zi_cons zw_787 (zi_cons zw_107 zi_nil))))) (zi_app inX7 (zi_app zi_k194_X7_valueOf zi_nil)))
set_option maxHeartbeats 4000000 in
set_option maxRecDepth 100000 in
theorem k317_X7_takeFrom (l : Launch) (D : va_G) (zt : Nat × Nat × Nat × (Nat → Nat) × (Nat → Nat)) (q : Nat → Nat) (d : Nat → ClassId) (I : Nat → Int32) (A : Nat → Nat → Int32) (hIv : IvX I A) : GM l D zt (tyX d) yX7_takeFrom wz_k317_X7_takeFrom ({ frames := 1, cells := 0, slots := 0, locals := 21 } : Room) [.ref (q 31), .ref (q 18)] (wX q d I A) (fun v _ w' => ∃ (I' : Nat → Int32) (A' : Nat → Nat → Int32), Md [] I I' ∧ Md [18] A A' ∧ IvX I' A' ∧ v = none ∧ w' = wX q d I' A') 0 0 := by
  refine GM.of (cc := cX7_takeFrom) (maxL := 3) (ret := none) (own := RX7) (lv := [(0, .ref (q 31)), (1, .ref (q 18))]) (by decide) rfl rfl (Nat.le_of_ble_eq_true rfl) rfl (fun κ sz hk hR hN => ?_)
  have hin7 : ∀ w ∈ u_ws RX7 TX7 1, w ∈ wz_k317_X7_takeFrom := fun w h => (List.mem_cons_of_mem _ (List.mem_append_right _ (List.mem_append_left _ h)))
  refine g_iconst (v := 0) hk dX7_takeFrom_0 (by decide) ?_
  refine g_istore_n (lv' := [(2, .int 0), (0, .ref (q 31)), (1, .ref (q 18))]) hk dX7_takeFrom_1 (by decide) rfl ?_
  have lp10005 : ∀ (n10006 : Nat) (x9988 : Int32) (I9991 : Nat → Int32) (A9991 : Nat → Nat → Int32), (Md [] I I9991) → (Md [18] A A9991) → (IvX I9991 A9991) → (0 ≤ x9988.toInt) → (x9988.toInt ≤ 4) → (5 - x9988.toInt < (n10006 : Int)) → (0 < n10006) → GW κ 3 0 0 (wX q d I9991 A9991) 2 [(2, .int x9988), (0, .ref (q 31)), (1, .ref (q 18))] [] := by
    intro n10006
    induction n10006 with
    | zero =>
      intro x9988 I9991 A9991 hI9991 hA9991 hV9991 h10003 h10004 m10007 m10007z
      exact absurd m10007z (Nat.lt_irrefl 0)
    | succ n10006 ih10008 =>
      intro x9988 I9991 A9991 hI9991 hA9991 hV9991 h10003 h10004 m10007 m10007z
      refine g_iload_n hk dX7_takeFrom_2 rfl ?_
      refine g_aload_n hk dX7_takeFrom_3 rfl ?_
      refine gX_r31_0 hk hin7 (List.mem_cons_of_mem _ (List.mem_append_left _ (List.mem_of_getElem? (i := 0) rfl))) dX7_takeFrom_4 ?_
      refine nX_18 hk dX7_takeFrom_7 ?_
      refine g_icmp_ge (tgt := 28) (a := x9988.toInt) (b := 4) hk dX7_takeFrom_8 (by decide) rfl rfl (fun c10009 => ?_) (fun c10009 => ?_)
      · skip
        exact g_vret hk hR ⟨I9991, A9991, (show Md [] I I9991 from (Md.tr Md.rf hI9991 rfl)), (show Md [18] A A9991 from (Md.tr Md.rf hA9991 rfl)), hV9991, rfl, rfl⟩ dX7_takeFrom_28
      · skip
        refine g_aload_n hk dX7_takeFrom_11 rfl ?_
        refine gX_r31_0 hk hin7 (List.mem_cons_of_mem _ (List.mem_append_left _ (List.mem_of_getElem? (i := 0) rfl))) dX7_takeFrom_12 ?_
        refine g_iload_n hk dX7_takeFrom_15 rfl ?_
        refine g_aload_n hk dX7_takeFrom_16 rfl ?_
        refine g_iload_n hk dX7_takeFrom_17 rfl ?_
        refine g_callV (n := 1) hk (k194_X7_valueOf l D zt q d I9991 A9991 x9988 hV9991) (SP.same _) (fun _ h => h) (gi_V (List.mem_cons_of_mem _ (List.mem_append_left _ (List.mem_of_getElem? (i := 1) rfl))) (List.mem_cons_of_mem _ (List.mem_append_left _ (List.mem_of_getElem? (i := 2) rfl))) (List.mem_cons_of_mem _ (List.mem_append_left _ (List.mem_of_getElem? (i := 3) rfl))) (List.mem_cons_of_mem _ (List.mem_append_left _ (List.mem_of_getElem? (i := 4) rfl))) (gi_sub (fun w h => (List.mem_cons_of_mem _ (List.mem_append_right _ (List.mem_append_right _ (List.mem_append_left _ h))))) zg_k194_X7_valueOf)) rfl rfl rfl (by decide +kernel) ⟨Nat.le_of_ble_eq_true rfl, Nat.le_of_ble_eq_true rfl⟩ 18 rfl rfl rfl rfl (Nat.le_of_ble_eq_true rfl) ⟨Nat.le_of_ble_eq_true rfl, Nat.le_of_ble_eq_true rfl⟩ dX7_takeFrom_18 (fun v ty' w' hp hk' => ?_)
        obtain ⟨y10010, rfl, rfl⟩ := hp
        show GW κ 3 0 0 (wX q d I9991 A9991) 21 [(2, .int x9988), (0, .ref (q 31)), (1, .ref (q 18))] [.int y10010, .int x9988, .ref (q 32)]
        refine sX_18 (j := x9988.toNatClampNeg) hk (vp_in_iff.mpr ⟨by omega, by omega⟩) rfl dX7_takeFrom_21 ?_
        obtain ⟨y10011, ey10011⟩ : ∃ y : Int32, y = x9988 + Int32.ofInt 1 := ⟨_, rfl⟩
        have hy10011 : y10011.toInt = x9988.toInt + 1 := i32_add ey10011 rfl (by decide) (by omega) (by omega)
        refine g_iinc (v := y10011) (lv' := [(2, .int y10011), (0, .ref (q 31)), (1, .ref (q 18))]) hk 0 dX7_takeFrom_22 rfl ey10011.symm (by decide) rfl ?_
        refine g_goto (tgt := 2) hk dX7_takeFrom_25 (by decide) ?_
        exact g_lv (List.forall_mem_cons.mpr ⟨List.mem_of_getElem? (i := 0) rfl, (List.forall_mem_cons.mpr ⟨List.mem_of_getElem? (i := 1) rfl, (List.forall_mem_cons.mpr ⟨List.mem_of_getElem? (i := 2) rfl, (fun _ h => absurd h List.not_mem_nil)⟩)⟩)⟩) (ih10008 y10011 I9991 (up3 A9991 18 (x9988.toNatClampNeg) y10010) (show Md [] I I9991 from Md.tr hI9991 (show Md [] I9991 I9991 from Md.rf) rfl) (show Md [18] A (up3 A9991 18 (x9988.toNatClampNeg) y10010) from Md.tr hA9991 (show Md [18] A9991 (up3 A9991 18 (x9988.toNatClampNeg) y10010) from (Md.up3 Md.rf rfl)) rfl) ⟨(IvX_f0 (I := I9991) (A := A9991) hV9991), (IvX_f18 (I := I9991) (A := A9991) hV9991), (IvX_f30 (I := I9991) (A := A9991) hV9991), (IvX_f31 (I := I9991) (A := A9991) hV9991), (IvX_a4 (I := I9991) (A := A9991) hV9991), (IvX_a9 (I := I9991) (A := A9991) hV9991), trivial⟩ (by omega) (by omega) (by omega) (by omega))
  have k10013 : (0 : Int32).toInt = 0 := rfl
  obtain ⟨n10012, n10012a, n10012b⟩ : ∃ n : Nat, 5 - 0 < (n : Int) ∧ 0 < n := ⟨((5 - 0 : Int)).toNat + 1, by omega, by omega⟩
  exact lp10005 n10012 0 I A Md.rf Md.rf hIv (by omega) (by omega) n10012a n10012b
def wo_k319_X8_append : List Cond := [Cond.fieldLink RX8 22 "WarpDesk$Stand" "size" "I", Cond.fieldLink RX8 9 "WarpDesk$Stand" "places" "[I"]
def wz_k319_X8_append : List Cond := .code yX8_append cX8_append 2 none :: (wo_k319_X8_append ++ (wsX80 ++ ([] : List Cond)))
theorem zg_k319_X8_append : ∀ w ∈ wz_k319_X8_append, goodWord w = true := zg_cons rfl (zg_app (by decide +kernel) (zg_app zgU_wsX80 zg_nil))
theorem zi_k319_X8_append : ∀ w ∈ wz_k319_X8_append, w ∈ lw_tbl := zi_cons zw_741 (zi_app (zi_cons zw_195 (zi_cons zw_194 zi_nil)) (zi_app inX8 zi_nil))
set_option maxHeartbeats 4000000 in
set_option maxRecDepth 100000 in
theorem k319_X8_append (l : Launch) (D : va_G) (zt : Nat × Nat × Nat × (Nat → Nat) × (Nat → Nat)) (q : Nat → Nat) (d : Nat → ClassId) (I : Nat → Int32) (A : Nat → Nat → Int32) (z1 : Int32) (hIv : IvX I A) : GM l D zt (tyX d) yX8_append wz_k319_X8_append ({ frames := 0, cells := 0, slots := 0, locals := 0 } : Room) [.ref (q 33), .int z1] (wX q d I A) (fun v _ w' => ∃ (I' : Nat → Int32) (A' : Nat → Nat → Int32), Md [26] I I' ∧ Md [19] A A' ∧ IvX I' A' ∧ v = none ∧ w' = wX q d I' A') 0 0 := by
  refine GM.of (cc := cX8_append) (maxL := 2) (ret := none) (own := RX8) (lv := [(0, .ref (q 33)), (1, .int z1)]) (by decide) rfl rfl (Nat.le_of_ble_eq_true rfl) rfl (fun κ sz hk hR hN => ?_)
  have hin8 : ∀ w ∈ u_ws RX8 TX8 4, w ∈ wz_k319_X8_append := fun w h => (List.mem_cons_of_mem _ (List.mem_append_right _ (List.mem_append_left _ h)))
  refine g_aload_n hk dX8_append_0 rfl ?_
  refine gX_i26 (v := (I 26)) hk hin8 (List.mem_cons_of_mem _ (List.mem_append_left _ (List.mem_of_getElem? (i := 0) rfl))) dX8_append_1 rfl ?_
  have b10026l := Int32.le_toInt (I 26)
  have b10026h := Int32.toInt_lt (I 26)
  refine g_if_lt (tgt := 39) (a := (I 26).toInt) hk dX8_append_4 (by decide) rfl (fun c10027 => ?_) (fun c10027 => ?_)
  · skip
    exact g_vret hk hR ⟨I, A, (show Md [26] I I from Md.rf), (show Md [19] A A from Md.rf), hIv, rfl, rfl⟩ dX8_append_39
  · skip
    refine g_aload_n hk dX8_append_7 rfl ?_
    refine gX_i26 (v := (I 26)) hk hin8 (List.mem_cons_of_mem _ (List.mem_append_left _ (List.mem_of_getElem? (i := 0) rfl))) dX8_append_8 rfl ?_
    refine g_aload_n hk dX8_append_11 rfl ?_
    refine gX_r33_0 hk hin8 (List.mem_cons_of_mem _ (List.mem_append_left _ (List.mem_of_getElem? (i := 1) rfl))) dX8_append_12 ?_
    refine nX_19 hk dX8_append_15 ?_
    refine g_icmp_ge (tgt := 39) (a := (I 26).toInt) (b := 160) hk dX8_append_16 (by decide) rfl rfl (fun c10028 => ?_) (fun c10028 => ?_)
    · skip
      exact g_vret hk hR ⟨I, A, (show Md [26] I I from Md.rf), (show Md [19] A A from Md.rf), hIv, rfl, rfl⟩ dX8_append_39
    · skip
      refine g_aload_n hk dX8_append_19 rfl ?_
      refine gX_r33_0 hk hin8 (List.mem_cons_of_mem _ (List.mem_append_left _ (List.mem_of_getElem? (i := 1) rfl))) dX8_append_20 ?_
      refine g_aload_n hk dX8_append_23 rfl ?_
      refine gX_i26 (v := (I 26)) hk hin8 (List.mem_cons_of_mem _ (List.mem_append_left _ (List.mem_of_getElem? (i := 0) rfl))) dX8_append_24 rfl ?_
      refine g_iload_n hk dX8_append_27 rfl ?_
      refine sX_19 (j := (I 26).toNatClampNeg) hk (vp_in_iff.mpr ⟨by omega, by omega⟩) rfl dX8_append_28 ?_
      refine g_aload_n hk dX8_append_29 rfl ?_
      refine g_dup hk dX8_append_30 rfl ?_
      refine gX_i26 (v := (I 26)) hk hin8 (List.mem_cons_of_mem _ (List.mem_append_left _ (List.mem_of_getElem? (i := 0) rfl))) dX8_append_31 rfl ?_
      refine g_iconst (v := 1) hk dX8_append_34 (by decide) ?_
      refine g_iadd hk dX8_append_35 ?_
      refine g_topi (fun y10029 ey10029 => ?_)
      have hy10029 : y10029.toInt = (I 26).toInt + 1 := i32_add ey10029 rfl rfl (by omega) (by omega)
      refine pX_i26 hk hin8 (List.mem_cons_of_mem _ (List.mem_append_left _ (List.mem_of_getElem? (i := 0) rfl))) dX8_append_36 ?_
      exact g_vret hk hR ⟨(upd I 26 y10029), (up3 A 19 ((I 26).toNatClampNeg) z1), (show Md [26] I (upd I 26 y10029) from (Md.up Md.rf rfl)), (show Md [19] A (up3 A 19 ((I 26).toNatClampNeg) z1) from (Md.up3 Md.rf rfl)), ⟨(IvX_f0 (I := I) (A := A) hIv), (IvX_f18 (I := I) (A := A) hIv), (IvX_f30 (I := I) (A := A) hIv), (IvX_f31 (I := I) (A := A) hIv), (IvX_a4 (I := I) (A := A) hIv), (IvX_a9 (I := I) (A := A) hIv), trivial⟩, rfl, rfl⟩ dX8_append_39
def wo_k318_X6_copyInto : List Cond := [Cond.fieldLink RX6 22 "WarpDesk$Stand" "size" "I", Cond.fieldLink RX6 19 "WarpDesk$Series" "size" "I", Cond.methodLink RX6 33 yX6_valueAt, Cond.instanceMethod yX6_valueAt, Cond.selects RX6 yX6_valueAt yX6_valueAt, Cond.initialized RX6, Cond.methodLink RX6 34 yX8_append, Cond.instanceMethod yX8_append, Cond.selects RX8 yX8_append yX8_append, Cond.initialized RX8]
def wz_k318_X6_copyInto : List Cond := .code yX6_copyInto cX6_copyInto 3 none :: (wo_k318_X6_copyInto ++ (wsX60 ++ (wsX80 ++ (wz_k179_X6_valueAt ++ (wz_k319_X8_append ++ ([] : List Cond))))))
theorem zg_k318_X6_copyInto : ∀ w ∈ wz_k318_X6_copyInto, goodWord w = true := zg_cons rfl (zg_app (by decide +kernel) (zg_app zgU_wsX60 (zg_app zgU_wsX80 (zg_app zg_k179_X6_valueAt (zg_app zg_k319_X8_append zg_nil)))))
theorem zi_k318_X6_copyInto : ∀ w ∈ wz_k318_X6_copyInto, w ∈ lw_tbl := zi_cons zw_1333 (zi_app (zi_cons zw_196 (zi_cons zw_282 (zi_cons zw_843 (zi_cons zw_807 (zi_cons zw_808 (zi_cons zw_109 (zi_cons zw_1334 (zi_cons zw_739 (zi_cons zw_740 (zi_cons zw_106 zi_nil)))))))))) (zi_app inX6 (zi_app inX8 (zi_app zi_k179_X6_valueAt (zi_app zi_k319_X8_append zi_nil)))))
set_option maxHeartbeats 4000000 in
set_option maxRecDepth 100000 in
theorem k318_X6_copyInto (l : Launch) (D : va_G) (zt : Nat × Nat × Nat × (Nat → Nat) × (Nat → Nat)) (q : Nat → Nat) (d : Nat → ClassId) (I : Nat → Int32) (A : Nat → Nat → Int32) (hIv : IvX I A) : GM l D zt (tyX d) yX6_copyInto wz_k318_X6_copyInto ({ frames := 1, cells := 0, slots := 0, locals := 21 } : Room) [.ref (q 13), .ref (q 33)] (wX q d I A) (fun v _ w' => ∃ (I' : Nat → Int32) (A' : Nat → Nat → Int32), Md [26] I I' ∧ Md [19] A A' ∧ IvX I' A' ∧ v = none ∧ w' = wX q d I' A') 0 0 := by
  refine GM.of (cc := cX6_copyInto) (maxL := 3) (ret := none) (own := RX6) (lv := [(0, .ref (q 13)), (1, .ref (q 33))]) (by decide) rfl rfl (Nat.le_of_ble_eq_true rfl) rfl (fun κ sz hk hR hN => ?_)
  have hin6 : ∀ w ∈ u_ws RX6 TX6 3, w ∈ wz_k318_X6_copyInto := fun w h => (List.mem_cons_of_mem _ (List.mem_append_right _ (List.mem_append_left _ h)))
  have hin8 : ∀ w ∈ u_ws RX8 TX8 4, w ∈ wz_k318_X6_copyInto := fun w h => (List.mem_cons_of_mem _ (List.mem_append_right _ (List.mem_append_right _ (List.mem_append_left _ h))))
  refine g_aload_n hk dX6_copyInto_0 rfl ?_
  refine g_iconst (v := 0) hk dX6_copyInto_1 (by decide) ?_
  refine pX_i26 hk hin8 (List.mem_cons_of_mem _ (List.mem_append_left _ (List.mem_of_getElem? (i := 0) rfl))) dX6_copyInto_2 ?_
  refine g_iconst (v := 0) hk dX6_copyInto_5 (by decide) ?_
  refine g_istore_n (lv' := [(2, .int 0), (0, .ref (q 13)), (1, .ref (q 33))]) hk dX6_copyInto_6 (by decide) rfl ?_
  have lp10053 : ∀ (n10054 : Nat) (x10018 : Int32) (I10021 : Nat → Int32) (A10021 : Nat → Nat → Int32), (Md [26] (upd I 26 0) I10021) → (Md [19] A A10021) → (IvX I10021 A10021) → (0 ≤ x10018.toInt) → (x10018.toInt ≤ 160) → (161 - x10018.toInt < (n10054 : Int)) → (0 < n10054) → GW κ 3 0 0 (wX q d I10021 A10021) 7 [(2, .int x10018), (0, .ref (q 13)), (1, .ref (q 33))] [] := by
    intro n10054
    induction n10054 with
    | zero =>
      intro x10018 I10021 A10021 hI10021 hA10021 hV10021 h10051 h10052 m10055 m10055z
      exact absurd m10055z (Nat.lt_irrefl 0)
    | succ n10054 ih10056 =>
      intro x10018 I10021 A10021 hI10021 hA10021 hV10021 h10051 h10052 m10055 m10055z
      refine g_iload_n hk dX6_copyInto_7 rfl ?_
      refine g_aload_n hk dX6_copyInto_8 rfl ?_
      refine gX_i18 (v := (I 18)) hk hin6 (List.mem_cons_of_mem _ (List.mem_append_left _ (List.mem_of_getElem? (i := 1) rfl))) dX6_copyInto_9 (hI10021 18 rfl) ?_
      have f10057 := IvX_f18 hIv
      refine g_icmp_ge (tgt := 30) (a := x10018.toInt) (b := (I 18).toInt) hk dX6_copyInto_12 (by decide) rfl rfl (fun c10058 => ?_) (fun c10058 => ?_)
      · skip
        exact g_vret hk hR ⟨I10021, A10021, (show Md [26] I I10021 from (Md.tr (Md.up Md.rf rfl) hI10021 rfl)), (show Md [19] A A10021 from (Md.tr Md.rf hA10021 rfl)), hV10021, rfl, rfl⟩ dX6_copyInto_30
      · skip
        refine g_aload_n hk dX6_copyInto_15 rfl ?_
        refine g_aload_n hk dX6_copyInto_16 rfl ?_
        refine g_iload_n hk dX6_copyInto_17 rfl ?_
        refine g_callV (n := 1) hk (k179_X6_valueAt l D zt q d I10021 A10021 x10018 hV10021) (SP.same _) (fun _ h => h) (gi_V (List.mem_cons_of_mem _ (List.mem_append_left _ (List.mem_of_getElem? (i := 2) rfl))) (List.mem_cons_of_mem _ (List.mem_append_left _ (List.mem_of_getElem? (i := 3) rfl))) (List.mem_cons_of_mem _ (List.mem_append_left _ (List.mem_of_getElem? (i := 4) rfl))) (List.mem_cons_of_mem _ (List.mem_append_left _ (List.mem_of_getElem? (i := 5) rfl))) (gi_sub (fun w h => (List.mem_cons_of_mem _ (List.mem_append_right _ (List.mem_append_right _ (List.mem_append_right _ (List.mem_append_left _ h)))))) zg_k179_X6_valueAt)) rfl rfl rfl (by decide +kernel) ⟨Nat.le_of_ble_eq_true rfl, Nat.le_of_ble_eq_true rfl⟩ 13 rfl rfl rfl rfl (Nat.le_of_ble_eq_true rfl) ⟨Nat.le_of_ble_eq_true rfl, Nat.le_of_ble_eq_true rfl⟩ dX6_copyInto_18 (fun v ty' w' hp hk' => ?_)
        obtain ⟨y10059, rfl, rfl⟩ := hp
        show GW κ 3 0 0 (wX q d I10021 A10021) 21 [(2, .int x10018), (0, .ref (q 13)), (1, .ref (q 33))] [.int y10059, .ref (q 33)]
        refine g_callV (n := 1) hk (k319_X8_append l D zt q d I10021 A10021 y10059 hV10021) (SP.same _) (fun _ h => h) (gi_V (List.mem_cons_of_mem _ (List.mem_append_left _ (List.mem_of_getElem? (i := 6) rfl))) (List.mem_cons_of_mem _ (List.mem_append_left _ (List.mem_of_getElem? (i := 7) rfl))) (List.mem_cons_of_mem _ (List.mem_append_left _ (List.mem_of_getElem? (i := 8) rfl))) (List.mem_cons_of_mem _ (List.mem_append_left _ (List.mem_of_getElem? (i := 9) rfl))) (gi_sub (fun w h => (List.mem_cons_of_mem _ (List.mem_append_right _ (List.mem_append_right _ (List.mem_append_right _ (List.mem_append_right _ (List.mem_append_left _ h))))))) zg_k319_X8_append)) rfl rfl rfl (by decide +kernel) ⟨Nat.le_of_ble_eq_true rfl, Nat.le_of_ble_eq_true rfl⟩ 33 rfl rfl rfl rfl (Nat.le_of_ble_eq_true rfl) ⟨Nat.le_of_ble_eq_true rfl, Nat.le_of_ble_eq_true rfl⟩ dX6_copyInto_21 (fun v ty' w' hp hk' => ?_)
        obtain ⟨I10061, A10061, hI10061, hA10061, hV10061, rfl, rfl⟩ := hp
        show GW κ 3 0 0 (wX q d I10061 A10061) 24 [(2, .int x10018), (0, .ref (q 13)), (1, .ref (q 33))] []
        obtain ⟨y10062, ey10062⟩ : ∃ y : Int32, y = x10018 + Int32.ofInt 1 := ⟨_, rfl⟩
        have hy10062 : y10062.toInt = x10018.toInt + 1 := i32_add ey10062 rfl (by decide) (by omega) (by omega)
        refine g_iinc (v := y10062) (lv' := [(2, .int y10062), (0, .ref (q 13)), (1, .ref (q 33))]) hk 0 dX6_copyInto_24 rfl ey10062.symm (by decide) rfl ?_
        refine g_goto (tgt := 7) hk dX6_copyInto_27 (by decide) ?_
        exact g_lv (List.forall_mem_cons.mpr ⟨List.mem_of_getElem? (i := 0) rfl, (List.forall_mem_cons.mpr ⟨List.mem_of_getElem? (i := 1) rfl, (List.forall_mem_cons.mpr ⟨List.mem_of_getElem? (i := 2) rfl, (fun _ h => absurd h List.not_mem_nil)⟩)⟩)⟩) (ih10056 y10062 I10061 A10061 (show Md [26] (upd I 26 0) I10061 from Md.tr hI10021 (show Md [26] I10021 I10061 from (Md.tr Md.rf hI10061 rfl)) rfl) (show Md [19] A A10061 from Md.tr hA10021 (show Md [19] A10021 A10061 from (Md.tr Md.rf hA10061 rfl)) rfl) hV10061 (by omega) (by omega) (by omega) (by omega))
  have k10064 : (0 : Int32).toInt = 0 := rfl
  obtain ⟨n10063, n10063a, n10063b⟩ : ∃ n : Nat, 161 - 0 < (n : Int) ∧ 0 < n := ⟨((161 - 0 : Int)).toNat + 1, by omega, by omega⟩
  exact lp10053 n10063 0 (upd I 26 0) A Md.rf Md.rf ⟨(IvX_f0 (I := I) (A := A) hIv), (IvX_f18 (I := I) (A := A) hIv), (IvX_f30 (I := I) (A := A) hIv), (IvX_f31 (I := I) (A := A) hIv), (IvX_a4 (I := I) (A := A) hIv), (IvX_a9 (I := I) (A := A) hIv), trivial⟩ (by omega) (by omega) n10063a n10063b
def wo_k320_X7_takeFrom : List Cond := [Cond.fieldLink RX7 20 "WarpDesk$Settings" "values" "[I", Cond.methodLink RX7 33 yX7_valueOf, Cond.instanceMethod yX7_valueOf, Cond.selects RX7 yX7_valueOf yX7_valueOf, Cond.initialized RX7]
def wz_k320_X7_takeFrom : List Cond := .code yX7_takeFrom cX7_takeFrom 3 none :: (wo_k320_X7_takeFrom ++ (wsX70 ++ (wz_k194_X7_valueOf ++ ([] : List Cond))))
theorem zg_k320_X7_takeFrom : ∀ w ∈ wz_k320_X7_takeFrom, goodWord w = true := zg_cons rfl (zg_app (by decide +kernel) (zg_app zgU_wsX70 (zg_app zg_k194_X7_valueOf zg_nil)))
theorem zi_k320_X7_takeFrom : ∀ w ∈ wz_k320_X7_takeFrom, w ∈ lw_tbl := zi_cons zw_784 (zi_app (zi_cons zw_190 (zi_cons zw_785 (zi_cons zw_786 (zi_cons zw_787 (zi_cons zw_107 zi_nil))))) (zi_app inX7 (zi_app zi_k194_X7_valueOf zi_nil)))
set_option maxHeartbeats 4000000 in
set_option maxRecDepth 100000 in
theorem k320_X7_takeFrom (l : Launch) (D : va_G) (zt : Nat × Nat × Nat × (Nat → Nat) × (Nat → Nat)) (q : Nat → Nat) (d : Nat → ClassId) (I : Nat → Int32) (A : Nat → Nat → Int32) (hIv : IvX I A) : GM l D zt (tyX d) yX7_takeFrom wz_k320_X7_takeFrom ({ frames := 1, cells := 0, slots := 0, locals := 21 } : Room) [.ref (q 35), .ref (q 18)] (wX q d I A) (fun v _ w' => ∃ (I' : Nat → Int32) (A' : Nat → Nat → Int32), Md [] I I' ∧ Md [20] A A' ∧ IvX I' A' ∧ v = none ∧ w' = wX q d I' A') 0 0 := by
  refine GM.of (cc := cX7_takeFrom) (maxL := 3) (ret := none) (own := RX7) (lv := [(0, .ref (q 35)), (1, .ref (q 18))]) (by decide) rfl rfl (Nat.le_of_ble_eq_true rfl) rfl (fun κ sz hk hR hN => ?_)
  have hin7 : ∀ w ∈ u_ws RX7 TX7 1, w ∈ wz_k320_X7_takeFrom := fun w h => (List.mem_cons_of_mem _ (List.mem_append_right _ (List.mem_append_left _ h)))
  refine g_iconst (v := 0) hk dX7_takeFrom_0 (by decide) ?_
  refine g_istore_n (lv' := [(2, .int 0), (0, .ref (q 35)), (1, .ref (q 18))]) hk dX7_takeFrom_1 (by decide) rfl ?_
  have lp10084 : ∀ (n10085 : Nat) (x10067 : Int32) (I10070 : Nat → Int32) (A10070 : Nat → Nat → Int32), (Md [] I I10070) → (Md [20] A A10070) → (IvX I10070 A10070) → (0 ≤ x10067.toInt) → (x10067.toInt ≤ 4) → (5 - x10067.toInt < (n10085 : Int)) → (0 < n10085) → GW κ 3 0 0 (wX q d I10070 A10070) 2 [(2, .int x10067), (0, .ref (q 35)), (1, .ref (q 18))] [] := by
    intro n10085
    induction n10085 with
    | zero =>
      intro x10067 I10070 A10070 hI10070 hA10070 hV10070 h10082 h10083 m10086 m10086z
      exact absurd m10086z (Nat.lt_irrefl 0)
    | succ n10085 ih10087 =>
      intro x10067 I10070 A10070 hI10070 hA10070 hV10070 h10082 h10083 m10086 m10086z
      refine g_iload_n hk dX7_takeFrom_2 rfl ?_
      refine g_aload_n hk dX7_takeFrom_3 rfl ?_
      refine gX_r35_0 hk hin7 (List.mem_cons_of_mem _ (List.mem_append_left _ (List.mem_of_getElem? (i := 0) rfl))) dX7_takeFrom_4 ?_
      refine nX_20 hk dX7_takeFrom_7 ?_
      refine g_icmp_ge (tgt := 28) (a := x10067.toInt) (b := 4) hk dX7_takeFrom_8 (by decide) rfl rfl (fun c10088 => ?_) (fun c10088 => ?_)
      · skip
        exact g_vret hk hR ⟨I10070, A10070, (show Md [] I I10070 from (Md.tr Md.rf hI10070 rfl)), (show Md [20] A A10070 from (Md.tr Md.rf hA10070 rfl)), hV10070, rfl, rfl⟩ dX7_takeFrom_28
      · skip
        refine g_aload_n hk dX7_takeFrom_11 rfl ?_
        refine gX_r35_0 hk hin7 (List.mem_cons_of_mem _ (List.mem_append_left _ (List.mem_of_getElem? (i := 0) rfl))) dX7_takeFrom_12 ?_
        refine g_iload_n hk dX7_takeFrom_15 rfl ?_
        refine g_aload_n hk dX7_takeFrom_16 rfl ?_
        refine g_iload_n hk dX7_takeFrom_17 rfl ?_
        refine g_callV (n := 1) hk (k194_X7_valueOf l D zt q d I10070 A10070 x10067 hV10070) (SP.same _) (fun _ h => h) (gi_V (List.mem_cons_of_mem _ (List.mem_append_left _ (List.mem_of_getElem? (i := 1) rfl))) (List.mem_cons_of_mem _ (List.mem_append_left _ (List.mem_of_getElem? (i := 2) rfl))) (List.mem_cons_of_mem _ (List.mem_append_left _ (List.mem_of_getElem? (i := 3) rfl))) (List.mem_cons_of_mem _ (List.mem_append_left _ (List.mem_of_getElem? (i := 4) rfl))) (gi_sub (fun w h => (List.mem_cons_of_mem _ (List.mem_append_right _ (List.mem_append_right _ (List.mem_append_left _ h))))) zg_k194_X7_valueOf)) rfl rfl rfl (by decide +kernel) ⟨Nat.le_of_ble_eq_true rfl, Nat.le_of_ble_eq_true rfl⟩ 18 rfl rfl rfl rfl (Nat.le_of_ble_eq_true rfl) ⟨Nat.le_of_ble_eq_true rfl, Nat.le_of_ble_eq_true rfl⟩ dX7_takeFrom_18 (fun v ty' w' hp hk' => ?_)
        obtain ⟨y10089, rfl, rfl⟩ := hp
        show GW κ 3 0 0 (wX q d I10070 A10070) 21 [(2, .int x10067), (0, .ref (q 35)), (1, .ref (q 18))] [.int y10089, .int x10067, .ref (q 36)]
        refine sX_20 (j := x10067.toNatClampNeg) hk (vp_in_iff.mpr ⟨by omega, by omega⟩) rfl dX7_takeFrom_21 ?_
        obtain ⟨y10090, ey10090⟩ : ∃ y : Int32, y = x10067 + Int32.ofInt 1 := ⟨_, rfl⟩
        have hy10090 : y10090.toInt = x10067.toInt + 1 := i32_add ey10090 rfl (by decide) (by omega) (by omega)
        refine g_iinc (v := y10090) (lv' := [(2, .int y10090), (0, .ref (q 35)), (1, .ref (q 18))]) hk 0 dX7_takeFrom_22 rfl ey10090.symm (by decide) rfl ?_
        refine g_goto (tgt := 2) hk dX7_takeFrom_25 (by decide) ?_
        exact g_lv (List.forall_mem_cons.mpr ⟨List.mem_of_getElem? (i := 0) rfl, (List.forall_mem_cons.mpr ⟨List.mem_of_getElem? (i := 1) rfl, (List.forall_mem_cons.mpr ⟨List.mem_of_getElem? (i := 2) rfl, (fun _ h => absurd h List.not_mem_nil)⟩)⟩)⟩) (ih10087 y10090 I10070 (up3 A10070 20 (x10067.toNatClampNeg) y10089) (show Md [] I I10070 from Md.tr hI10070 (show Md [] I10070 I10070 from Md.rf) rfl) (show Md [20] A (up3 A10070 20 (x10067.toNatClampNeg) y10089) from Md.tr hA10070 (show Md [20] A10070 (up3 A10070 20 (x10067.toNatClampNeg) y10089) from (Md.up3 Md.rf rfl)) rfl) ⟨(IvX_f0 (I := I10070) (A := A10070) hV10070), (IvX_f18 (I := I10070) (A := A10070) hV10070), (IvX_f30 (I := I10070) (A := A10070) hV10070), (IvX_f31 (I := I10070) (A := A10070) hV10070), (IvX_a4 (I := I10070) (A := A10070) hV10070), (IvX_a9 (I := I10070) (A := A10070) hV10070), trivial⟩ (by omega) (by omega) (by omega) (by omega))
  have k10092 : (0 : Int32).toInt = 0 := rfl
  obtain ⟨n10091, n10091a, n10091b⟩ : ∃ n : Nat, 5 - 0 < (n : Int) ∧ 0 < n := ⟨((5 - 0 : Int)).toNat + 1, by omega, by omega⟩
  exact lp10084 n10091 0 I A Md.rf Md.rf hIv (by omega) (by omega) n10091a n10091b
def wo_k311_X11_hold : List Cond := [Cond.fieldLink RX11 56 "WarpDesk" "slots" "[LWarpDesk$Stand;", Cond.fieldLink RX11 28 "WarpDesk" "series" "LWarpDesk$Series;", Cond.methodLink RX11 362 yX6_copyInto, Cond.instanceMethod yX6_copyInto, Cond.selects RX6 yX6_copyInto yX6_copyInto, Cond.initialized RX6, Cond.fieldLink RX11 365 "WarpDesk$Stand" "settings" "LWarpDesk$Settings;", Cond.fieldLink RX11 42 "WarpDesk" "settings" "LWarpDesk$Settings;", Cond.methodLink RX11 366 yX7_takeFrom, Cond.instanceMethod yX7_takeFrom, Cond.selects RX7 yX7_takeFrom yX7_takeFrom, Cond.initialized RX7, Cond.fieldLink RX11 110 "WarpDesk$Stand" "held" "Z"]
def wz_k311_X11_hold : List Cond := .code yX11_hold cX11_hold 3 (some .boolean) :: (wo_k311_X11_hold ++ (wsX80 ++ (wsX110 ++ (wz_k312_X6_copyInto ++ (wz_k314_X7_takeFrom ++ (wz_k315_X6_copyInto ++ (wz_k317_X7_takeFrom ++ (wz_k318_X6_copyInto ++ (wz_k320_X7_takeFrom ++ ([] : List Cond))))))))))
theorem zg_k311_X11_hold : ∀ w ∈ wz_k311_X11_hold, goodWord w = true := zg_cons rfl (zg_app (by decide +kernel) (zg_app zgU_wsX80 (zg_app zgU_wsX110 (zg_app zg_k312_X6_copyInto (zg_app zg_k314_X7_takeFrom (zg_app zg_k315_X6_copyInto (zg_app zg_k317_X7_takeFrom (zg_app zg_k318_X6_copyInto (zg_app zg_k320_X7_takeFrom zg_nil)))))))))
theorem zi_k311_X11_hold : ∀ w ∈ wz_k311_X11_hold, w ∈ lw_tbl := zi_cons zw_1329 (zi_app (zi_cons zw_493 (zi_cons zw_489 (zi_cons zw_1330 (zi_cons zw_1331 (zi_cons zw_1332 (zi_cons zw_109 (zi_cons zw_200 (zi_cons zw_491 (zi_cons zw_781 (zi_cons zw_782 (zi_cons zw_783 (zi_cons zw_107 (zi_cons zw_201 zi_nil))))))))))))) (zi_app inX8 (zi_app inX11 (zi_app zi_k312_X6_copyInto (zi_app zi_k314_X7_takeFrom (zi_app zi_k315_X6_copyInto (zi_app zi_k317_X7_takeFrom (zi_app zi_k318_X6_copyInto (zi_app zi_k320_X7_takeFrom zi_nil)))))))))
set_option maxHeartbeats 4000000 in
set_option maxRecDepth 100000 in
theorem k311_X11_hold (l : Launch) (D : va_G) (zt : Nat × Nat × Nat × (Nat → Nat) × (Nat → Nat)) (q : Nat → Nat) (d : Nat → ClassId) (I : Nat → Int32) (A : Nat → Nat → Int32) (z1 : Int32) (hIv : IvX I A) : GM l D zt (tyX d) yX11_hold wz_k311_X11_hold ({ frames := 2, cells := 0, slots := 0, locals := 43 } : Room) [.ref (q 0), .int z1] (wX q d I A) (fun v _ w' => ∃ (I' : Nat → Int32) (A' : Nat → Nat → Int32), Md [22, 23, 24, 25, 26, 27] I I' ∧ Md [15, 16, 17, 18, 19, 20] A A' ∧ IvX I' A' ∧ ∃ y0 : Int32, ((0 ≤ z1.toInt ∧ z1.toInt ≤ 2 ∧ y0.toInt = 1) ∨ ((z1.toInt < 0 ∨ 2 < z1.toInt) ∧ y0.toInt = 0)) ∧ (0 ≤ y0.toInt) ∧ (y0.toInt ≤ 1) ∧ v = some (.int y0) ∧ w' = wX q d I' A') 0 0 := by
  refine GM.of (cc := cX11_hold) (maxL := 3) (ret := (some .boolean)) (own := RX11) (lv := [(0, .ref (q 0)), (1, .int z1)]) (by decide) rfl rfl (Nat.le_of_ble_eq_true rfl) rfl (fun κ sz hk hR hN => ?_)
  have hin8 : ∀ w ∈ u_ws RX8 TX8 4, w ∈ wz_k311_X11_hold := fun w h => (List.mem_cons_of_mem _ (List.mem_append_right _ (List.mem_append_left _ h)))
  have hin11 : ∀ w ∈ u_ws RX11 TX11 10, w ∈ wz_k311_X11_hold := fun w h => (List.mem_cons_of_mem _ (List.mem_append_right _ (List.mem_append_right _ (List.mem_append_left _ h))))
  refine g_iload_n hk dX11_hold_0 rfl ?_
  have b9855l := Int32.le_toInt z1
  have b9855h := Int32.toInt_lt z1
  refine g_if_lt (tgt := 13) (a := z1.toInt) hk dX11_hold_1 (by decide) rfl (fun c9856 => ?_) (fun c9856 => ?_)
  · skip
    refine g_iconst (v := 0) hk dX11_hold_13 (by decide) ?_
    have k9857 : (0 : Int32).toInt = 0 := rfl
    exact g_iret hk hR rfl ⟨I, A, (show Md [22, 23, 24, 25, 26, 27] I I from Md.rf), (show Md [15, 16, 17, 18, 19, 20] A A from Md.rf), hIv, 0, (show (0 ≤ z1.toInt ∧ z1.toInt ≤ 2 ∧ (0 : Int32).toInt = 1) ∨ ((z1.toInt < 0 ∨ 2 < z1.toInt) ∧ (0 : Int32).toInt = 0) from by omega), (by decide), (by decide), rfl, rfl⟩ dX11_hold_14
  · skip
    refine g_iload_n hk dX11_hold_4 rfl ?_
    refine g_aload_n hk dX11_hold_5 rfl ?_
    refine gX_r0_6 hk hin11 (List.mem_cons_of_mem _ (List.mem_append_left _ (List.mem_of_getElem? (i := 0) rfl))) dX11_hold_6 ?_
    refine nX_14 hk dX11_hold_9 ?_
    refine g_icmp_lt (tgt := 15) (a := z1.toInt) (b := 3) hk dX11_hold_10 (by decide) rfl rfl (fun c9858 => ?_) (fun c9858 => ?_)
    · skip
      refine g_aload_n hk dX11_hold_15 rfl ?_
      refine gX_r0_6 hk hin11 (List.mem_cons_of_mem _ (List.mem_append_left _ (List.mem_of_getElem? (i := 0) rfl))) dX11_hold_16 ?_
      refine g_iload_n hk dX11_hold_19 rfl ?_
      by_cases c9859 : z1.toInt = 0
      · have ec9859 : z1 = 0 := Int32.toInt_inj.mp c9859
        rw [ec9859]
        show GW κ 3 0 0 (wX q d I A) 20 [(0, .ref (q 0)), (1, .int 0)] [.int 0, .ref (q 24)]
        refine lX_14 hk (vp_in_iff.mpr ⟨by decide, by decide⟩) rfl dX11_hold_20 ?_
        refine g_astore_n (lv' := [(2, .ref (q 25)), (0, .ref (q 0)), (1, .int 0)]) hk dX11_hold_21 (by decide) rfl ?_
        refine g_aload_n hk dX11_hold_22 rfl ?_
        refine gX_r0_2 hk hin11 (List.mem_cons_of_mem _ (List.mem_append_left _ (List.mem_of_getElem? (i := 1) rfl))) dX11_hold_23 ?_
        refine g_aload_n hk dX11_hold_26 rfl ?_
        refine g_callV (n := 1) hk (k312_X6_copyInto l D zt q d I A  hIv) (SP.same _) (fun _ h => h) (gi_V (List.mem_cons_of_mem _ (List.mem_append_left _ (List.mem_of_getElem? (i := 2) rfl))) (List.mem_cons_of_mem _ (List.mem_append_left _ (List.mem_of_getElem? (i := 3) rfl))) (List.mem_cons_of_mem _ (List.mem_append_left _ (List.mem_of_getElem? (i := 4) rfl))) (List.mem_cons_of_mem _ (List.mem_append_left _ (List.mem_of_getElem? (i := 5) rfl))) (gi_sub (fun w h => (List.mem_cons_of_mem _ (List.mem_append_right _ (List.mem_append_right _ (List.mem_append_right _ (List.mem_append_left _ h)))))) zg_k312_X6_copyInto)) rfl rfl rfl (by decide +kernel) ⟨Nat.le_of_ble_eq_true rfl, Nat.le_of_ble_eq_true rfl⟩ 13 rfl rfl rfl rfl (Nat.le_of_ble_eq_true rfl) ⟨Nat.le_of_ble_eq_true rfl, Nat.le_of_ble_eq_true rfl⟩ dX11_hold_27 (fun v ty' w' hp hk' => ?_)
        obtain ⟨I9908, A9908, hI9908, hA9908, hV9908, rfl, rfl⟩ := hp
        show GW κ 3 0 0 (wX q d I9908 A9908) 30 [(2, .ref (q 25)), (0, .ref (q 0)), (1, .int 0)] []
        refine g_aload_n hk dX11_hold_30 rfl ?_
        refine gX_r25_2 hk hin8 (List.mem_cons_of_mem _ (List.mem_append_left _ (List.mem_of_getElem? (i := 6) rfl))) dX11_hold_31 ?_
        refine g_aload_n hk dX11_hold_34 rfl ?_
        refine gX_r0_4 hk hin11 (List.mem_cons_of_mem _ (List.mem_append_left _ (List.mem_of_getElem? (i := 7) rfl))) dX11_hold_35 ?_
        refine g_callV (n := 1) hk (k314_X7_takeFrom l D zt q d I9908 A9908  hV9908) (SP.same _) (fun _ h => h) (gi_V (List.mem_cons_of_mem _ (List.mem_append_left _ (List.mem_of_getElem? (i := 8) rfl))) (List.mem_cons_of_mem _ (List.mem_append_left _ (List.mem_of_getElem? (i := 9) rfl))) (List.mem_cons_of_mem _ (List.mem_append_left _ (List.mem_of_getElem? (i := 10) rfl))) (List.mem_cons_of_mem _ (List.mem_append_left _ (List.mem_of_getElem? (i := 11) rfl))) (gi_sub (fun w h => (List.mem_cons_of_mem _ (List.mem_append_right _ (List.mem_append_right _ (List.mem_append_right _ (List.mem_append_right _ (List.mem_append_left _ h))))))) zg_k314_X7_takeFrom)) rfl rfl rfl (by decide +kernel) ⟨Nat.le_of_ble_eq_true rfl, Nat.le_of_ble_eq_true rfl⟩ 27 rfl rfl rfl rfl (Nat.le_of_ble_eq_true rfl) ⟨Nat.le_of_ble_eq_true rfl, Nat.le_of_ble_eq_true rfl⟩ dX11_hold_38 (fun v ty' w' hp hk' => ?_)
        obtain ⟨I9936, A9936, hI9936, hA9936, hV9936, rfl, rfl⟩ := hp
        show GW κ 3 0 0 (wX q d I9936 A9936) 41 [(2, .ref (q 25)), (0, .ref (q 0)), (1, .int 0)] []
        refine g_aload_n hk dX11_hold_41 rfl ?_
        refine g_iconst (v := 1) hk dX11_hold_42 (by decide) ?_
        refine pX_i23 hk hin8 (List.mem_cons_of_mem _ (List.mem_append_left _ (List.mem_of_getElem? (i := 12) rfl))) ⟨rfl, rfl⟩ dX11_hold_43 ?_
        refine g_iconst (v := 1) hk dX11_hold_46 (by decide) ?_
        have k9937 : (1 : Int32).toInt = 1 := rfl
        exact g_iret hk hR rfl ⟨(upd I9936 23 1), A9936, (show Md [22, 23, 24, 25, 26, 27] I (upd I9936 23 1) from (Md.up (Md.tr (Md.tr Md.rf hI9908 rfl) hI9936 rfl) rfl)), (show Md [15, 16, 17, 18, 19, 20] A A9936 from (Md.tr (Md.tr Md.rf hA9908 rfl) hA9936 rfl)), ⟨(IvX_f0 (I := I9936) (A := A9936) hV9936), (IvX_f18 (I := I9936) (A := A9936) hV9936), (IvX_f30 (I := I9936) (A := A9936) hV9936), (IvX_f31 (I := I9936) (A := A9936) hV9936), (IvX_a4 (I := I9936) (A := A9936) hV9936), (IvX_a9 (I := I9936) (A := A9936) hV9936), trivial⟩, 1, (show (0 ≤ z1.toInt ∧ z1.toInt ≤ 2 ∧ (1 : Int32).toInt = 1) ∨ ((z1.toInt < 0 ∨ 2 < z1.toInt) ∧ (1 : Int32).toInt = 0) from by omega), (by decide), (by decide), rfl, rfl⟩ dX11_hold_47
      by_cases c9938 : z1.toInt = 1
      · have ec9938 : z1 = 1 := Int32.toInt_inj.mp c9938
        rw [ec9938]
        show GW κ 3 0 0 (wX q d I A) 20 [(0, .ref (q 0)), (1, .int 1)] [.int 1, .ref (q 24)]
        refine lX_14 hk (vp_in_iff.mpr ⟨by decide, by decide⟩) rfl dX11_hold_20 ?_
        refine g_astore_n (lv' := [(2, .ref (q 29)), (0, .ref (q 0)), (1, .int 1)]) hk dX11_hold_21 (by decide) rfl ?_
        refine g_aload_n hk dX11_hold_22 rfl ?_
        refine gX_r0_2 hk hin11 (List.mem_cons_of_mem _ (List.mem_append_left _ (List.mem_of_getElem? (i := 1) rfl))) dX11_hold_23 ?_
        refine g_aload_n hk dX11_hold_26 rfl ?_
        refine g_callV (n := 1) hk (k315_X6_copyInto l D zt q d I A  hIv) (SP.same _) (fun _ h => h) (gi_V (List.mem_cons_of_mem _ (List.mem_append_left _ (List.mem_of_getElem? (i := 2) rfl))) (List.mem_cons_of_mem _ (List.mem_append_left _ (List.mem_of_getElem? (i := 3) rfl))) (List.mem_cons_of_mem _ (List.mem_append_left _ (List.mem_of_getElem? (i := 4) rfl))) (List.mem_cons_of_mem _ (List.mem_append_left _ (List.mem_of_getElem? (i := 5) rfl))) (gi_sub (fun w h => (List.mem_cons_of_mem _ (List.mem_append_right _ (List.mem_append_right _ (List.mem_append_right _ (List.mem_append_right _ (List.mem_append_right _ (List.mem_append_left _ h)))))))) zg_k315_X6_copyInto)) rfl rfl rfl (by decide +kernel) ⟨Nat.le_of_ble_eq_true rfl, Nat.le_of_ble_eq_true rfl⟩ 13 rfl rfl rfl rfl (Nat.le_of_ble_eq_true rfl) ⟨Nat.le_of_ble_eq_true rfl, Nat.le_of_ble_eq_true rfl⟩ dX11_hold_27 (fun v ty' w' hp hk' => ?_)
        obtain ⟨I9987, A9987, hI9987, hA9987, hV9987, rfl, rfl⟩ := hp
        show GW κ 3 0 0 (wX q d I9987 A9987) 30 [(2, .ref (q 29)), (0, .ref (q 0)), (1, .int 1)] []
        refine g_aload_n hk dX11_hold_30 rfl ?_
        refine gX_r29_2 hk hin8 (List.mem_cons_of_mem _ (List.mem_append_left _ (List.mem_of_getElem? (i := 6) rfl))) dX11_hold_31 ?_
        refine g_aload_n hk dX11_hold_34 rfl ?_
        refine gX_r0_4 hk hin11 (List.mem_cons_of_mem _ (List.mem_append_left _ (List.mem_of_getElem? (i := 7) rfl))) dX11_hold_35 ?_
        refine g_callV (n := 1) hk (k317_X7_takeFrom l D zt q d I9987 A9987  hV9987) (SP.same _) (fun _ h => h) (gi_V (List.mem_cons_of_mem _ (List.mem_append_left _ (List.mem_of_getElem? (i := 8) rfl))) (List.mem_cons_of_mem _ (List.mem_append_left _ (List.mem_of_getElem? (i := 9) rfl))) (List.mem_cons_of_mem _ (List.mem_append_left _ (List.mem_of_getElem? (i := 10) rfl))) (List.mem_cons_of_mem _ (List.mem_append_left _ (List.mem_of_getElem? (i := 11) rfl))) (gi_sub (fun w h => (List.mem_cons_of_mem _ (List.mem_append_right _ (List.mem_append_right _ (List.mem_append_right _ (List.mem_append_right _ (List.mem_append_right _ (List.mem_append_right _ (List.mem_append_left _ h))))))))) zg_k317_X7_takeFrom)) rfl rfl rfl (by decide +kernel) ⟨Nat.le_of_ble_eq_true rfl, Nat.le_of_ble_eq_true rfl⟩ 31 rfl rfl rfl rfl (Nat.le_of_ble_eq_true rfl) ⟨Nat.le_of_ble_eq_true rfl, Nat.le_of_ble_eq_true rfl⟩ dX11_hold_38 (fun v ty' w' hp hk' => ?_)
        obtain ⟨I10015, A10015, hI10015, hA10015, hV10015, rfl, rfl⟩ := hp
        show GW κ 3 0 0 (wX q d I10015 A10015) 41 [(2, .ref (q 29)), (0, .ref (q 0)), (1, .int 1)] []
        refine g_aload_n hk dX11_hold_41 rfl ?_
        refine g_iconst (v := 1) hk dX11_hold_42 (by decide) ?_
        refine pX_i25 hk hin8 (List.mem_cons_of_mem _ (List.mem_append_left _ (List.mem_of_getElem? (i := 12) rfl))) ⟨rfl, rfl⟩ dX11_hold_43 ?_
        refine g_iconst (v := 1) hk dX11_hold_46 (by decide) ?_
        have k10016 : (1 : Int32).toInt = 1 := rfl
        exact g_iret hk hR rfl ⟨(upd I10015 25 1), A10015, (show Md [22, 23, 24, 25, 26, 27] I (upd I10015 25 1) from (Md.up (Md.tr (Md.tr Md.rf hI9987 rfl) hI10015 rfl) rfl)), (show Md [15, 16, 17, 18, 19, 20] A A10015 from (Md.tr (Md.tr Md.rf hA9987 rfl) hA10015 rfl)), ⟨(IvX_f0 (I := I10015) (A := A10015) hV10015), (IvX_f18 (I := I10015) (A := A10015) hV10015), (IvX_f30 (I := I10015) (A := A10015) hV10015), (IvX_f31 (I := I10015) (A := A10015) hV10015), (IvX_a4 (I := I10015) (A := A10015) hV10015), (IvX_a9 (I := I10015) (A := A10015) hV10015), trivial⟩, 1, (show (0 ≤ z1.toInt ∧ z1.toInt ≤ 2 ∧ (1 : Int32).toInt = 1) ∨ ((z1.toInt < 0 ∨ 2 < z1.toInt) ∧ (1 : Int32).toInt = 0) from by omega), (by decide), (by decide), rfl, rfl⟩ dX11_hold_47
      by_cases c10017 : z1.toInt = 2
      · have ec10017 : z1 = 2 := Int32.toInt_inj.mp c10017
        rw [ec10017]
        show GW κ 3 0 0 (wX q d I A) 20 [(0, .ref (q 0)), (1, .int 2)] [.int 2, .ref (q 24)]
        refine lX_14 hk (vp_in_iff.mpr ⟨by decide, by decide⟩) rfl dX11_hold_20 ?_
        refine g_astore_n (lv' := [(2, .ref (q 33)), (0, .ref (q 0)), (1, .int 2)]) hk dX11_hold_21 (by decide) rfl ?_
        refine g_aload_n hk dX11_hold_22 rfl ?_
        refine gX_r0_2 hk hin11 (List.mem_cons_of_mem _ (List.mem_append_left _ (List.mem_of_getElem? (i := 1) rfl))) dX11_hold_23 ?_
        refine g_aload_n hk dX11_hold_26 rfl ?_
        refine g_callV (n := 1) hk (k318_X6_copyInto l D zt q d I A  hIv) (SP.same _) (fun _ h => h) (gi_V (List.mem_cons_of_mem _ (List.mem_append_left _ (List.mem_of_getElem? (i := 2) rfl))) (List.mem_cons_of_mem _ (List.mem_append_left _ (List.mem_of_getElem? (i := 3) rfl))) (List.mem_cons_of_mem _ (List.mem_append_left _ (List.mem_of_getElem? (i := 4) rfl))) (List.mem_cons_of_mem _ (List.mem_append_left _ (List.mem_of_getElem? (i := 5) rfl))) (gi_sub (fun w h => (List.mem_cons_of_mem _ (List.mem_append_right _ (List.mem_append_right _ (List.mem_append_right _ (List.mem_append_right _ (List.mem_append_right _ (List.mem_append_right _ (List.mem_append_right _ (List.mem_append_left _ h)))))))))) zg_k318_X6_copyInto)) rfl rfl rfl (by decide +kernel) ⟨Nat.le_of_ble_eq_true rfl, Nat.le_of_ble_eq_true rfl⟩ 13 rfl rfl rfl rfl (Nat.le_of_ble_eq_true rfl) ⟨Nat.le_of_ble_eq_true rfl, Nat.le_of_ble_eq_true rfl⟩ dX11_hold_27 (fun v ty' w' hp hk' => ?_)
        obtain ⟨I10066, A10066, hI10066, hA10066, hV10066, rfl, rfl⟩ := hp
        show GW κ 3 0 0 (wX q d I10066 A10066) 30 [(2, .ref (q 33)), (0, .ref (q 0)), (1, .int 2)] []
        refine g_aload_n hk dX11_hold_30 rfl ?_
        refine gX_r33_2 hk hin8 (List.mem_cons_of_mem _ (List.mem_append_left _ (List.mem_of_getElem? (i := 6) rfl))) dX11_hold_31 ?_
        refine g_aload_n hk dX11_hold_34 rfl ?_
        refine gX_r0_4 hk hin11 (List.mem_cons_of_mem _ (List.mem_append_left _ (List.mem_of_getElem? (i := 7) rfl))) dX11_hold_35 ?_
        refine g_callV (n := 1) hk (k320_X7_takeFrom l D zt q d I10066 A10066  hV10066) (SP.same _) (fun _ h => h) (gi_V (List.mem_cons_of_mem _ (List.mem_append_left _ (List.mem_of_getElem? (i := 8) rfl))) (List.mem_cons_of_mem _ (List.mem_append_left _ (List.mem_of_getElem? (i := 9) rfl))) (List.mem_cons_of_mem _ (List.mem_append_left _ (List.mem_of_getElem? (i := 10) rfl))) (List.mem_cons_of_mem _ (List.mem_append_left _ (List.mem_of_getElem? (i := 11) rfl))) (gi_sub (fun w h => (List.mem_cons_of_mem _ (List.mem_append_right _ (List.mem_append_right _ (List.mem_append_right _ (List.mem_append_right _ (List.mem_append_right _ (List.mem_append_right _ (List.mem_append_right _ (List.mem_append_right _ (List.mem_append_left _ h))))))))))) zg_k320_X7_takeFrom)) rfl rfl rfl (by decide +kernel) ⟨Nat.le_of_ble_eq_true rfl, Nat.le_of_ble_eq_true rfl⟩ 35 rfl rfl rfl rfl (Nat.le_of_ble_eq_true rfl) ⟨Nat.le_of_ble_eq_true rfl, Nat.le_of_ble_eq_true rfl⟩ dX11_hold_38 (fun v ty' w' hp hk' => ?_)
        obtain ⟨I10094, A10094, hI10094, hA10094, hV10094, rfl, rfl⟩ := hp
        show GW κ 3 0 0 (wX q d I10094 A10094) 41 [(2, .ref (q 33)), (0, .ref (q 0)), (1, .int 2)] []
        refine g_aload_n hk dX11_hold_41 rfl ?_
        refine g_iconst (v := 1) hk dX11_hold_42 (by decide) ?_
        refine pX_i27 hk hin8 (List.mem_cons_of_mem _ (List.mem_append_left _ (List.mem_of_getElem? (i := 12) rfl))) ⟨rfl, rfl⟩ dX11_hold_43 ?_
        refine g_iconst (v := 1) hk dX11_hold_46 (by decide) ?_
        have k10095 : (1 : Int32).toInt = 1 := rfl
        exact g_iret hk hR rfl ⟨(upd I10094 27 1), A10094, (show Md [22, 23, 24, 25, 26, 27] I (upd I10094 27 1) from (Md.up (Md.tr (Md.tr Md.rf hI10066 rfl) hI10094 rfl) rfl)), (show Md [15, 16, 17, 18, 19, 20] A A10094 from (Md.tr (Md.tr Md.rf hA10066 rfl) hA10094 rfl)), ⟨(IvX_f0 (I := I10094) (A := A10094) hV10094), (IvX_f18 (I := I10094) (A := A10094) hV10094), (IvX_f30 (I := I10094) (A := A10094) hV10094), (IvX_f31 (I := I10094) (A := A10094) hV10094), (IvX_a4 (I := I10094) (A := A10094) hV10094), (IvX_a9 (I := I10094) (A := A10094) hV10094), trivial⟩, 1, (show (0 ≤ z1.toInt ∧ z1.toInt ≤ 2 ∧ (1 : Int32).toInt = 1) ∨ ((z1.toInt < 0 ∨ 2 < z1.toInt) ∧ (1 : Int32).toInt = 0) from by omega), (by decide), (by decide), rfl, rfl⟩ dX11_hold_47
      exfalso; omega
    · skip
      refine g_iconst (v := 0) hk dX11_hold_13 (by decide) ?_
      have k10096 : (0 : Int32).toInt = 0 := rfl
      exact g_iret hk hR rfl ⟨I, A, (show Md [22, 23, 24, 25, 26, 27] I I from Md.rf), (show Md [15, 16, 17, 18, 19, 20] A A from Md.rf), hIv, 0, (show (0 ≤ z1.toInt ∧ z1.toInt ≤ 2 ∧ (0 : Int32).toInt = 1) ∨ ((z1.toInt < 0 ∨ 2 < z1.toInt) ∧ (0 : Int32).toInt = 0) from by omega), (by decide), (by decide), rfl, rfl⟩ dX11_hold_14
def wo_k324_X8_valueAt : List Cond := [Cond.fieldLink RX8 22 "WarpDesk$Stand" "size" "I", Cond.fieldLink RX8 9 "WarpDesk$Stand" "places" "[I"]
def wz_k324_X8_valueAt : List Cond := .code yX8_valueAt cX8_valueAt 2 (some .int) :: (wo_k324_X8_valueAt ++ (wsX80 ++ ([] : List Cond)))
theorem zg_k324_X8_valueAt : ∀ w ∈ wz_k324_X8_valueAt, goodWord w = true := zg_cons rfl (zg_app (by decide +kernel) (zg_app zgU_wsX80 zg_nil))
theorem zi_k324_X8_valueAt : ∀ w ∈ wz_k324_X8_valueAt, w ∈ lw_tbl := zi_cons zw_776 (zi_app (zi_cons zw_195 (zi_cons zw_194 zi_nil)) (zi_app inX8 zi_nil))
set_option maxHeartbeats 4000000 in
set_option maxRecDepth 100000 in
theorem k324_X8_valueAt (l : Launch) (D : va_G) (zt : Nat × Nat × Nat × (Nat → Nat) × (Nat → Nat)) (q : Nat → Nat) (d : Nat → ClassId) (I : Nat → Int32) (A : Nat → Nat → Int32) (z1 : Int32) (hIv : IvX I A) : GM l D zt (tyX d) yX8_valueAt wz_k324_X8_valueAt ({ frames := 0, cells := 0, slots := 0, locals := 0 } : Room) [.ref (q 25), .int z1] (wX q d I A) (fun v _ w' => ∃ y0 : Int32, v = some (.int y0) ∧ w' = wX q d I A) 0 0 := by
  refine GM.of (cc := cX8_valueAt) (maxL := 2) (ret := (some .int)) (own := RX8) (lv := [(0, .ref (q 25)), (1, .int z1)]) (by decide) rfl rfl (Nat.le_of_ble_eq_true rfl) rfl (fun κ sz hk hR hN => ?_)
  have hin8 : ∀ w ∈ u_ws RX8 TX8 4, w ∈ wz_k324_X8_valueAt := fun w h => (List.mem_cons_of_mem _ (List.mem_append_right _ (List.mem_append_left _ h)))
  refine g_iload_n hk dX8_valueAt_0 rfl ?_
  have b10109l := Int32.le_toInt z1
  have b10109h := Int32.toInt_lt z1
  refine g_if_lt (tgt := 30) (a := z1.toInt) hk dX8_valueAt_1 (by decide) rfl (fun c10110 => ?_) (fun c10110 => ?_)
  · skip
    refine g_sipush (v := (-1000)) hk dX8_valueAt_30 (by decide) ?_
    exact g_iret hk hR rfl ⟨(-1000), rfl, rfl⟩ dX8_valueAt_33
  · skip
    refine g_iload_n hk dX8_valueAt_4 rfl ?_
    refine g_aload_n hk dX8_valueAt_5 rfl ?_
    refine gX_i22 (v := (I 22)) hk hin8 (List.mem_cons_of_mem _ (List.mem_append_left _ (List.mem_of_getElem? (i := 0) rfl))) dX8_valueAt_6 rfl ?_
    have b10111l := Int32.le_toInt (I 22)
    have b10111h := Int32.toInt_lt (I 22)
    refine g_icmp_ge (tgt := 30) (a := z1.toInt) (b := (I 22).toInt) hk dX8_valueAt_9 (by decide) rfl rfl (fun c10112 => ?_) (fun c10112 => ?_)
    · skip
      refine g_sipush (v := (-1000)) hk dX8_valueAt_30 (by decide) ?_
      exact g_iret hk hR rfl ⟨(-1000), rfl, rfl⟩ dX8_valueAt_33
    · skip
      refine g_iload_n hk dX8_valueAt_12 rfl ?_
      refine g_aload_n hk dX8_valueAt_13 rfl ?_
      refine gX_r25_0 hk hin8 (List.mem_cons_of_mem _ (List.mem_append_left _ (List.mem_of_getElem? (i := 1) rfl))) dX8_valueAt_14 ?_
      refine nX_15 hk dX8_valueAt_17 ?_
      refine g_icmp_ge (tgt := 30) (a := z1.toInt) (b := 160) hk dX8_valueAt_18 (by decide) rfl rfl (fun c10113 => ?_) (fun c10113 => ?_)
      · skip
        refine g_sipush (v := (-1000)) hk dX8_valueAt_30 (by decide) ?_
        exact g_iret hk hR rfl ⟨(-1000), rfl, rfl⟩ dX8_valueAt_33
      · skip
        refine g_aload_n hk dX8_valueAt_21 rfl ?_
        refine gX_r25_0 hk hin8 (List.mem_cons_of_mem _ (List.mem_append_left _ (List.mem_of_getElem? (i := 1) rfl))) dX8_valueAt_22 ?_
        refine g_iload_n hk dX8_valueAt_25 rfl ?_
        refine lX_15 (v := (A 15 z1.toNatClampNeg)) hk (vp_in_iff.mpr ⟨by omega, by omega⟩) rfl dX8_valueAt_26 ?_
        refine g_goto (tgt := 33) hk dX8_valueAt_27 (by decide) ?_
        have b10114l := Int32.le_toInt (A 15 z1.toNatClampNeg)
        have b10114h := Int32.toInt_lt (A 15 z1.toNatClampNeg)
        exact g_iret hk hR rfl ⟨(A 15 z1.toNatClampNeg), rfl, rfl⟩ dX8_valueAt_33
def wo_k323_X6_takeFrom : List Cond := [Cond.fieldLink RX6 15 "WarpDesk$Series" "first" "I", Cond.fieldLink RX6 19 "WarpDesk$Series" "size" "I", Cond.fieldLink RX6 22 "WarpDesk$Stand" "size" "I", Cond.methodLink RX6 25 yX8_valueAt, Cond.instanceMethod yX8_valueAt, Cond.selects RX8 yX8_valueAt yX8_valueAt, Cond.initialized RX8, Cond.methodLink RX6 29 yX6_append, Cond.instanceMethod yX6_append, Cond.selects RX6 yX6_append yX6_append, Cond.initialized RX6]
def wz_k323_X6_takeFrom : List Cond := .code yX6_takeFrom cX6_takeFrom 3 none :: (wo_k323_X6_takeFrom ++ (wsX60 ++ (wsX80 ++ (wz_k324_X8_valueAt ++ (wz_k172_X6_append ++ ([] : List Cond))))))
theorem zg_k323_X6_takeFrom : ∀ w ∈ wz_k323_X6_takeFrom, goodWord w = true := zg_cons rfl (zg_app (by decide +kernel) (zg_app zgU_wsX60 (zg_app zgU_wsX80 (zg_app zg_k324_X8_valueAt (zg_app zg_k172_X6_append zg_nil)))))
theorem zi_k323_X6_takeFrom : ∀ w ∈ wz_k323_X6_takeFrom, w ∈ lw_tbl := zi_cons zw_772 (zi_app (zi_cons zw_281 (zi_cons zw_282 (zi_cons zw_196 (zi_cons zw_773 (zi_cons zw_774 (zi_cons zw_775 (zi_cons zw_106 (zi_cons zw_777 (zi_cons zw_778 (zi_cons zw_779 (zi_cons zw_109 zi_nil))))))))))) (zi_app inX6 (zi_app inX8 (zi_app zi_k324_X8_valueAt (zi_app zi_k172_X6_append zi_nil)))))
set_option maxHeartbeats 4000000 in
set_option maxRecDepth 100000 in
theorem k323_X6_takeFrom (l : Launch) (D : va_G) (zt : Nat × Nat × Nat × (Nat → Nat) × (Nat → Nat)) (q : Nat → Nat) (d : Nat → ClassId) (I : Nat → Int32) (A : Nat → Nat → Int32) (hIv : IvX I A) : GM l D zt (tyX d) yX6_takeFrom wz_k323_X6_takeFrom ({ frames := 1, cells := 0, slots := 0, locals := 21 } : Room) [.ref (q 13), .ref (q 25)] (wX q d I A) (fun v _ w' => ∃ (I' : Nat → Int32) (A' : Nat → Nat → Int32), Md [17, 18] I I' ∧ Md [7] A A' ∧ IvX I' A' ∧ v = none ∧ w' = wX q d I' A') 0 0 := by
  refine GM.of (cc := cX6_takeFrom) (maxL := 3) (ret := none) (own := RX6) (lv := [(0, .ref (q 13)), (1, .ref (q 25))]) (by decide) rfl rfl (Nat.le_of_ble_eq_true rfl) rfl (fun κ sz hk hR hN => ?_)
  have hin6 : ∀ w ∈ u_ws RX6 TX6 3, w ∈ wz_k323_X6_takeFrom := fun w h => (List.mem_cons_of_mem _ (List.mem_append_right _ (List.mem_append_left _ h)))
  have hin8 : ∀ w ∈ u_ws RX8 TX8 4, w ∈ wz_k323_X6_takeFrom := fun w h => (List.mem_cons_of_mem _ (List.mem_append_right _ (List.mem_append_right _ (List.mem_append_left _ h))))
  refine g_aload_n hk dX6_takeFrom_0 rfl ?_
  refine g_iconst (v := 0) hk dX6_takeFrom_1 (by decide) ?_
  refine pX_i17 hk hin6 (List.mem_cons_of_mem _ (List.mem_append_left _ (List.mem_of_getElem? (i := 0) rfl))) dX6_takeFrom_2 ?_
  refine g_aload_n hk dX6_takeFrom_5 rfl ?_
  refine g_iconst (v := 0) hk dX6_takeFrom_6 (by decide) ?_
  refine pX_i18 hk hin6 (List.mem_cons_of_mem _ (List.mem_append_left _ (List.mem_of_getElem? (i := 1) rfl))) dX6_takeFrom_7 ?_
  refine g_iconst (v := 0) hk dX6_takeFrom_10 (by decide) ?_
  refine g_istore_n (lv' := [(2, .int 0), (0, .ref (q 13)), (1, .ref (q 25))]) hk dX6_takeFrom_11 (by decide) rfl ?_
  have lp10139 : ∀ (n10140 : Nat) (x10103 : Int32) (I10106 : Nat → Int32) (A10106 : Nat → Nat → Int32), (Md [17, 18] (upd (upd I 17 0) 18 0) I10106) → (Md [7] A A10106) → (IvX I10106 A10106) → (0 ≤ x10103.toInt) → ((I 22).toInt + 1 - x10103.toInt < (n10140 : Int)) → (0 < n10140) → GW κ 3 0 0 (wX q d I10106 A10106) 12 [(2, .int x10103), (0, .ref (q 13)), (1, .ref (q 25))] [] := by
    intro n10140
    induction n10140 with
    | zero =>
      intro x10103 I10106 A10106 hI10106 hA10106 hV10106 h10138 m10141 m10141z
      exact absurd m10141z (Nat.lt_irrefl 0)
    | succ n10140 ih10142 =>
      intro x10103 I10106 A10106 hI10106 hA10106 hV10106 h10138 m10141 m10141z
      refine g_iload_n hk dX6_takeFrom_12 rfl ?_
      refine g_aload_n hk dX6_takeFrom_13 rfl ?_
      refine gX_i22 (v := (I 22)) hk hin8 (List.mem_cons_of_mem _ (List.mem_append_left _ (List.mem_of_getElem? (i := 2) rfl))) dX6_takeFrom_14 (hI10106 22 rfl) ?_
      have b10143l := Int32.le_toInt x10103
      have b10143h := Int32.toInt_lt x10103
      have b10144l := Int32.le_toInt (I 22)
      have b10144h := Int32.toInt_lt (I 22)
      refine g_icmp_ge (tgt := 36) (a := x10103.toInt) (b := (I 22).toInt) hk dX6_takeFrom_17 (by decide) rfl rfl (fun c10145 => ?_) (fun c10145 => ?_)
      · skip
        exact g_vret hk hR ⟨I10106, A10106, (show Md [17, 18] I I10106 from (Md.tr (Md.up (Md.up Md.rf rfl) rfl) hI10106 rfl)), (show Md [7] A A10106 from (Md.tr Md.rf hA10106 rfl)), hV10106, rfl, rfl⟩ dX6_takeFrom_36
      · skip
        refine g_aload_n hk dX6_takeFrom_20 rfl ?_
        refine g_aload_n hk dX6_takeFrom_21 rfl ?_
        refine g_iload_n hk dX6_takeFrom_22 rfl ?_
        refine g_callV (n := 1) hk (k324_X8_valueAt l D zt q d I10106 A10106 x10103 hV10106) (SP.same _) (fun _ h => h) (gi_V (List.mem_cons_of_mem _ (List.mem_append_left _ (List.mem_of_getElem? (i := 3) rfl))) (List.mem_cons_of_mem _ (List.mem_append_left _ (List.mem_of_getElem? (i := 4) rfl))) (List.mem_cons_of_mem _ (List.mem_append_left _ (List.mem_of_getElem? (i := 5) rfl))) (List.mem_cons_of_mem _ (List.mem_append_left _ (List.mem_of_getElem? (i := 6) rfl))) (gi_sub (fun w h => (List.mem_cons_of_mem _ (List.mem_append_right _ (List.mem_append_right _ (List.mem_append_right _ (List.mem_append_left _ h)))))) zg_k324_X8_valueAt)) rfl rfl rfl (by decide +kernel) ⟨Nat.le_of_ble_eq_true rfl, Nat.le_of_ble_eq_true rfl⟩ 25 rfl rfl rfl rfl (Nat.le_of_ble_eq_true rfl) ⟨Nat.le_of_ble_eq_true rfl, Nat.le_of_ble_eq_true rfl⟩ dX6_takeFrom_23 (fun v ty' w' hp hk' => ?_)
        obtain ⟨y10146, rfl, rfl⟩ := hp
        show GW κ 3 0 0 (wX q d I10106 A10106) 26 [(2, .int x10103), (0, .ref (q 13)), (1, .ref (q 25))] [.int y10146, .ref (q 13)]
        refine g_callV (n := 1) hk (k172_X6_append l D zt q d I10106 A10106 y10146 hV10106) (SP.same _) (fun _ h => h) (gi_V (List.mem_cons_of_mem _ (List.mem_append_left _ (List.mem_of_getElem? (i := 7) rfl))) (List.mem_cons_of_mem _ (List.mem_append_left _ (List.mem_of_getElem? (i := 8) rfl))) (List.mem_cons_of_mem _ (List.mem_append_left _ (List.mem_of_getElem? (i := 9) rfl))) (List.mem_cons_of_mem _ (List.mem_append_left _ (List.mem_of_getElem? (i := 10) rfl))) (gi_sub (fun w h => (List.mem_cons_of_mem _ (List.mem_append_right _ (List.mem_append_right _ (List.mem_append_right _ (List.mem_append_right _ (List.mem_append_left _ h))))))) zg_k172_X6_append)) rfl rfl rfl (by decide +kernel) ⟨Nat.le_of_ble_eq_true rfl, Nat.le_of_ble_eq_true rfl⟩ 13 rfl rfl rfl rfl (Nat.le_of_ble_eq_true rfl) ⟨Nat.le_of_ble_eq_true rfl, Nat.le_of_ble_eq_true rfl⟩ dX6_takeFrom_26 (fun v ty' w' hp hk' => ?_)
        obtain ⟨I10150, A10150, hI10150, hA10150, hV10150, y10147, c10148, c10149, rfl, rfl⟩ := hp
        show GW κ 3 0 0 (wX q d I10150 A10150) 29 [(2, .int x10103), (0, .ref (q 13)), (1, .ref (q 25))] [.int y10147]
        refine g_pop hk dX6_takeFrom_29 rfl ?_
        obtain ⟨y10151, ey10151⟩ : ∃ y : Int32, y = x10103 + Int32.ofInt 1 := ⟨_, rfl⟩
        have hy10151 : y10151.toInt = x10103.toInt + 1 := i32_add ey10151 rfl (by decide) (by omega) (by omega)
        refine g_iinc (v := y10151) (lv' := [(2, .int y10151), (0, .ref (q 13)), (1, .ref (q 25))]) hk 0 dX6_takeFrom_30 rfl ey10151.symm (by decide) rfl ?_
        refine g_goto (tgt := 12) hk dX6_takeFrom_33 (by decide) ?_
        exact g_lv (List.forall_mem_cons.mpr ⟨List.mem_of_getElem? (i := 0) rfl, (List.forall_mem_cons.mpr ⟨List.mem_of_getElem? (i := 1) rfl, (List.forall_mem_cons.mpr ⟨List.mem_of_getElem? (i := 2) rfl, (fun _ h => absurd h List.not_mem_nil)⟩)⟩)⟩) (ih10142 y10151 I10150 A10150 (show Md [17, 18] (upd (upd I 17 0) 18 0) I10150 from Md.tr hI10106 (show Md [17, 18] I10106 I10150 from (Md.tr Md.rf hI10150 rfl)) rfl) (show Md [7] A A10150 from Md.tr hA10106 (show Md [7] A10106 A10150 from (Md.tr Md.rf hA10150 rfl)) rfl) hV10150 (by omega) (by omega) (by omega))
  have k10153 : (0 : Int32).toInt = 0 := rfl
  obtain ⟨n10152, n10152a, n10152b⟩ : ∃ n : Nat, (I 22).toInt + 1 - 0 < (n : Int) ∧ 0 < n := ⟨(((I 22).toInt + 1 - 0 : Int)).toNat + 1, by omega, by omega⟩
  exact lp10139 n10152 0 (upd (upd I 17 0) 18 0) A Md.rf Md.rf ⟨(IvX_f0 (I := I) (A := A) hIv), (show 0 ≤ (0 : Int32).toInt ∧ (0 : Int32).toInt ≤ 160 from ⟨by decide, by decide⟩), (IvX_f30 (I := I) (A := A) hIv), (IvX_f31 (I := I) (A := A) hIv), (IvX_a4 (I := I) (A := A) hIv), (IvX_a9 (I := I) (A := A) hIv), trivial⟩ (by omega) n10152a n10152b
def wo_k326_X7_valueOf : List Cond := [Cond.fieldLink RX7 20 "WarpDesk$Settings" "values" "[I"]
def wz_k326_X7_valueOf : List Cond := .code yX7_valueOf cX7_valueOf 2 (some .int) :: (wo_k326_X7_valueOf ++ (wsX70 ++ ([] : List Cond)))
theorem zg_k326_X7_valueOf : ∀ w ∈ wz_k326_X7_valueOf, goodWord w = true := zg_cons rfl (zg_app (by decide +kernel) (zg_app zgU_wsX70 zg_nil))
theorem zi_k326_X7_valueOf : ∀ w ∈ wz_k326_X7_valueOf, w ∈ lw_tbl := zi_cons zw_788 (zi_app (zi_cons zw_190 zi_nil) (zi_app inX7 zi_nil))
set_option maxHeartbeats 4000000 in
set_option maxRecDepth 100000 in
theorem k326_X7_valueOf (l : Launch) (D : va_G) (zt : Nat × Nat × Nat × (Nat → Nat) × (Nat → Nat)) (q : Nat → Nat) (d : Nat → ClassId) (I : Nat → Int32) (A : Nat → Nat → Int32) (z1 : Int32) (hIv : IvX I A) : GM l D zt (tyX d) yX7_valueOf wz_k326_X7_valueOf ({ frames := 0, cells := 0, slots := 0, locals := 0 } : Room) [.ref (q 27), .int z1] (wX q d I A) (fun v _ w' => ∃ y0 : Int32, v = some (.int y0) ∧ w' = wX q d I A) 0 0 := by
  refine GM.of (cc := cX7_valueOf) (maxL := 2) (ret := (some .int)) (own := RX7) (lv := [(0, .ref (q 27)), (1, .int z1)]) (by decide) rfl rfl (Nat.le_of_ble_eq_true rfl) rfl (fun κ sz hk hR hN => ?_)
  have hin7 : ∀ w ∈ u_ws RX7 TX7 1, w ∈ wz_k326_X7_valueOf := fun w h => (List.mem_cons_of_mem _ (List.mem_append_right _ (List.mem_append_left _ h)))
  refine g_iload_n hk dX7_valueOf_0 rfl ?_
  have b10160l := Int32.le_toInt z1
  have b10160h := Int32.toInt_lt z1
  refine g_if_lt (tgt := 22) (a := z1.toInt) hk dX7_valueOf_1 (by decide) rfl (fun c10161 => ?_) (fun c10161 => ?_)
  · skip
    refine g_iconst (v := (-1)) hk dX7_valueOf_22 (by decide) ?_
    exact g_iret hk hR rfl ⟨(-1), rfl, rfl⟩ dX7_valueOf_23
  · skip
    refine g_iload_n hk dX7_valueOf_4 rfl ?_
    refine g_aload_n hk dX7_valueOf_5 rfl ?_
    refine gX_r27_0 hk hin7 (List.mem_cons_of_mem _ (List.mem_append_left _ (List.mem_of_getElem? (i := 0) rfl))) dX7_valueOf_6 ?_
    refine nX_16 hk dX7_valueOf_9 ?_
    refine g_icmp_ge (tgt := 22) (a := z1.toInt) (b := 4) hk dX7_valueOf_10 (by decide) rfl rfl (fun c10162 => ?_) (fun c10162 => ?_)
    · skip
      refine g_iconst (v := (-1)) hk dX7_valueOf_22 (by decide) ?_
      exact g_iret hk hR rfl ⟨(-1), rfl, rfl⟩ dX7_valueOf_23
    · skip
      refine g_aload_n hk dX7_valueOf_13 rfl ?_
      refine gX_r27_0 hk hin7 (List.mem_cons_of_mem _ (List.mem_append_left _ (List.mem_of_getElem? (i := 0) rfl))) dX7_valueOf_14 ?_
      refine g_iload_n hk dX7_valueOf_17 rfl ?_
      refine lX_16 (v := (A 16 z1.toNatClampNeg)) hk (vp_in_iff.mpr ⟨by omega, by omega⟩) rfl dX7_valueOf_18 ?_
      refine g_goto (tgt := 23) hk dX7_valueOf_19 (by decide) ?_
      have b10163l := Int32.le_toInt (A 16 z1.toNatClampNeg)
      have b10163h := Int32.toInt_lt (A 16 z1.toNatClampNeg)
      exact g_iret hk hR rfl ⟨(A 16 z1.toNatClampNeg), rfl, rfl⟩ dX7_valueOf_23
def wo_k325_X7_takeFrom : List Cond := [Cond.fieldLink RX7 20 "WarpDesk$Settings" "values" "[I", Cond.methodLink RX7 33 yX7_valueOf, Cond.instanceMethod yX7_valueOf, Cond.selects RX7 yX7_valueOf yX7_valueOf, Cond.initialized RX7]
def wz_k325_X7_takeFrom : List Cond := .code yX7_takeFrom cX7_takeFrom 3 none :: (wo_k325_X7_takeFrom ++ (wsX70 ++ (wz_k326_X7_valueOf ++ ([] : List Cond))))
theorem zg_k325_X7_takeFrom : ∀ w ∈ wz_k325_X7_takeFrom, goodWord w = true := zg_cons rfl (zg_app (by decide +kernel) (zg_app zgU_wsX70 (zg_app zg_k326_X7_valueOf zg_nil)))
theorem zi_k325_X7_takeFrom : ∀ w ∈ wz_k325_X7_takeFrom, w ∈ lw_tbl := zi_cons zw_784 (zi_app (zi_cons zw_190 (zi_cons zw_785 (zi_cons zw_786 (zi_cons zw_787 (zi_cons zw_107 zi_nil))))) (zi_app inX7 (zi_app zi_k326_X7_valueOf zi_nil)))
set_option maxHeartbeats 4000000 in
set_option maxRecDepth 100000 in
theorem k325_X7_takeFrom (l : Launch) (D : va_G) (zt : Nat × Nat × Nat × (Nat → Nat) × (Nat → Nat)) (q : Nat → Nat) (d : Nat → ClassId) (I : Nat → Int32) (A : Nat → Nat → Int32) (hIv : IvX I A) : GM l D zt (tyX d) yX7_takeFrom wz_k325_X7_takeFrom ({ frames := 1, cells := 0, slots := 0, locals := 21 } : Room) [.ref (q 18), .ref (q 27)] (wX q d I A) (fun v _ w' => ∃ (I' : Nat → Int32) (A' : Nat → Nat → Int32), Md [] I I' ∧ Md [10] A A' ∧ IvX I' A' ∧ v = none ∧ w' = wX q d I' A') 0 0 := by
  refine GM.of (cc := cX7_takeFrom) (maxL := 3) (ret := none) (own := RX7) (lv := [(0, .ref (q 18)), (1, .ref (q 27))]) (by decide) rfl rfl (Nat.le_of_ble_eq_true rfl) rfl (fun κ sz hk hR hN => ?_)
  have hin7 : ∀ w ∈ u_ws RX7 TX7 1, w ∈ wz_k325_X7_takeFrom := fun w h => (List.mem_cons_of_mem _ (List.mem_append_right _ (List.mem_append_left _ h)))
  refine g_iconst (v := 0) hk dX7_takeFrom_0 (by decide) ?_
  refine g_istore_n (lv' := [(2, .int 0), (0, .ref (q 18)), (1, .ref (q 27))]) hk dX7_takeFrom_1 (by decide) rfl ?_
  have lp10177 : ∀ (n10178 : Nat) (x10156 : Int32) (I10159 : Nat → Int32) (A10159 : Nat → Nat → Int32), (Md [] I I10159) → (Md [10] A A10159) → (IvX I10159 A10159) → (0 ≤ x10156.toInt) → (x10156.toInt ≤ 4) → (5 - x10156.toInt < (n10178 : Int)) → (0 < n10178) → GW κ 3 0 0 (wX q d I10159 A10159) 2 [(2, .int x10156), (0, .ref (q 18)), (1, .ref (q 27))] [] := by
    intro n10178
    induction n10178 with
    | zero =>
      intro x10156 I10159 A10159 hI10159 hA10159 hV10159 h10175 h10176 m10179 m10179z
      exact absurd m10179z (Nat.lt_irrefl 0)
    | succ n10178 ih10180 =>
      intro x10156 I10159 A10159 hI10159 hA10159 hV10159 h10175 h10176 m10179 m10179z
      refine g_iload_n hk dX7_takeFrom_2 rfl ?_
      refine g_aload_n hk dX7_takeFrom_3 rfl ?_
      refine gX_r18_0 hk hin7 (List.mem_cons_of_mem _ (List.mem_append_left _ (List.mem_of_getElem? (i := 0) rfl))) dX7_takeFrom_4 ?_
      refine nX_10 hk dX7_takeFrom_7 ?_
      refine g_icmp_ge (tgt := 28) (a := x10156.toInt) (b := 4) hk dX7_takeFrom_8 (by decide) rfl rfl (fun c10181 => ?_) (fun c10181 => ?_)
      · skip
        exact g_vret hk hR ⟨I10159, A10159, (show Md [] I I10159 from (Md.tr Md.rf hI10159 rfl)), (show Md [10] A A10159 from (Md.tr Md.rf hA10159 rfl)), hV10159, rfl, rfl⟩ dX7_takeFrom_28
      · skip
        refine g_aload_n hk dX7_takeFrom_11 rfl ?_
        refine gX_r18_0 hk hin7 (List.mem_cons_of_mem _ (List.mem_append_left _ (List.mem_of_getElem? (i := 0) rfl))) dX7_takeFrom_12 ?_
        refine g_iload_n hk dX7_takeFrom_15 rfl ?_
        refine g_aload_n hk dX7_takeFrom_16 rfl ?_
        refine g_iload_n hk dX7_takeFrom_17 rfl ?_
        refine g_callV (n := 1) hk (k326_X7_valueOf l D zt q d I10159 A10159 x10156 hV10159) (SP.same _) (fun _ h => h) (gi_V (List.mem_cons_of_mem _ (List.mem_append_left _ (List.mem_of_getElem? (i := 1) rfl))) (List.mem_cons_of_mem _ (List.mem_append_left _ (List.mem_of_getElem? (i := 2) rfl))) (List.mem_cons_of_mem _ (List.mem_append_left _ (List.mem_of_getElem? (i := 3) rfl))) (List.mem_cons_of_mem _ (List.mem_append_left _ (List.mem_of_getElem? (i := 4) rfl))) (gi_sub (fun w h => (List.mem_cons_of_mem _ (List.mem_append_right _ (List.mem_append_right _ (List.mem_append_left _ h))))) zg_k326_X7_valueOf)) rfl rfl rfl (by decide +kernel) ⟨Nat.le_of_ble_eq_true rfl, Nat.le_of_ble_eq_true rfl⟩ 27 rfl rfl rfl rfl (Nat.le_of_ble_eq_true rfl) ⟨Nat.le_of_ble_eq_true rfl, Nat.le_of_ble_eq_true rfl⟩ dX7_takeFrom_18 (fun v ty' w' hp hk' => ?_)
        obtain ⟨y10182, rfl, rfl⟩ := hp
        show GW κ 3 0 0 (wX q d I10159 A10159) 21 [(2, .int x10156), (0, .ref (q 18)), (1, .ref (q 27))] [.int y10182, .int x10156, .ref (q 19)]
        refine sX_10 (j := x10156.toNatClampNeg) hk (vp_in_iff.mpr ⟨by omega, by omega⟩) rfl dX7_takeFrom_21 ?_
        obtain ⟨y10183, ey10183⟩ : ∃ y : Int32, y = x10156 + Int32.ofInt 1 := ⟨_, rfl⟩
        have hy10183 : y10183.toInt = x10156.toInt + 1 := i32_add ey10183 rfl (by decide) (by omega) (by omega)
        refine g_iinc (v := y10183) (lv' := [(2, .int y10183), (0, .ref (q 18)), (1, .ref (q 27))]) hk 0 dX7_takeFrom_22 rfl ey10183.symm (by decide) rfl ?_
        refine g_goto (tgt := 2) hk dX7_takeFrom_25 (by decide) ?_
        exact g_lv (List.forall_mem_cons.mpr ⟨List.mem_of_getElem? (i := 0) rfl, (List.forall_mem_cons.mpr ⟨List.mem_of_getElem? (i := 1) rfl, (List.forall_mem_cons.mpr ⟨List.mem_of_getElem? (i := 2) rfl, (fun _ h => absurd h List.not_mem_nil)⟩)⟩)⟩) (ih10180 y10183 I10159 (up3 A10159 10 (x10156.toNatClampNeg) y10182) (show Md [] I I10159 from Md.tr hI10159 (show Md [] I10159 I10159 from Md.rf) rfl) (show Md [10] A (up3 A10159 10 (x10156.toNatClampNeg) y10182) from Md.tr hA10159 (show Md [10] A10159 (up3 A10159 10 (x10156.toNatClampNeg) y10182) from (Md.up3 Md.rf rfl)) rfl) ⟨(IvX_f0 (I := I10159) (A := A10159) hV10159), (IvX_f18 (I := I10159) (A := A10159) hV10159), (IvX_f30 (I := I10159) (A := A10159) hV10159), (IvX_f31 (I := I10159) (A := A10159) hV10159), (IvX_a4 (I := I10159) (A := A10159) hV10159), (IvX_a9 (I := I10159) (A := A10159) hV10159), trivial⟩ (by omega) (by omega) (by omega) (by omega))
  have k10185 : (0 : Int32).toInt = 0 := rfl
  obtain ⟨n10184, n10184a, n10184b⟩ : ∃ n : Nat, 5 - 0 < (n : Int) ∧ 0 < n := ⟨((5 - 0 : Int)).toNat + 1, by omega, by omega⟩
  exact lp10177 n10184 0 I A Md.rf Md.rf hIv (by omega) (by omega) n10184a n10184b
def wo_k322_X11_goOnFrom : List Cond := [Cond.fieldLink RX11 28 "WarpDesk" "series" "LWarpDesk$Series;", Cond.methodLink RX11 369 yX6_takeFrom, Cond.instanceMethod yX6_takeFrom, Cond.selects RX6 yX6_takeFrom yX6_takeFrom, Cond.initialized RX6, Cond.fieldLink RX11 42 "WarpDesk" "settings" "LWarpDesk$Settings;", Cond.fieldLink RX11 365 "WarpDesk$Stand" "settings" "LWarpDesk$Settings;", Cond.methodLink RX11 366 yX7_takeFrom, Cond.instanceMethod yX7_takeFrom, Cond.selects RX7 yX7_takeFrom yX7_takeFrom, Cond.initialized RX7, Cond.fieldLink RX11 49 "WarpDesk" "past" "LWarpDesk$Past;", Cond.methodLink RX11 371 yX3_forget, Cond.instanceMethod yX3_forget, Cond.selects RX3 yX3_forget yX3_forget, Cond.initialized RX3]
def wz_k322_X11_goOnFrom : List Cond := .code yX11_goOnFrom cX11_goOnFrom 2 none :: (wo_k322_X11_goOnFrom ++ (wsX80 ++ (wsX110 ++ (wz_k323_X6_takeFrom ++ (wz_k325_X7_takeFrom ++ (wz_k175_X3_forget ++ ([] : List Cond)))))))
theorem zg_k322_X11_goOnFrom : ∀ w ∈ wz_k322_X11_goOnFrom, goodWord w = true := zg_cons rfl (zg_app (by decide +kernel) (zg_app zgU_wsX80 (zg_app zgU_wsX110 (zg_app zg_k323_X6_takeFrom (zg_app zg_k325_X7_takeFrom (zg_app zg_k175_X3_forget zg_nil))))))
theorem zi_k322_X11_goOnFrom : ∀ w ∈ wz_k322_X11_goOnFrom, w ∈ lw_tbl := zi_cons zw_768 (zi_app (zi_cons zw_489 (zi_cons zw_769 (zi_cons zw_770 (zi_cons zw_771 (zi_cons zw_109 (zi_cons zw_491 (zi_cons zw_200 (zi_cons zw_781 (zi_cons zw_782 (zi_cons zw_783 (zi_cons zw_107 (zi_cons zw_492 (zi_cons zw_789 (zi_cons zw_790 (zi_cons zw_791 (zi_cons zw_110 zi_nil)))))))))))))))) (zi_app inX8 (zi_app inX11 (zi_app zi_k323_X6_takeFrom (zi_app zi_k325_X7_takeFrom (zi_app zi_k175_X3_forget zi_nil))))))
set_option maxHeartbeats 4000000 in
set_option maxRecDepth 100000 in
theorem k322_X11_goOnFrom (l : Launch) (D : va_G) (zt : Nat × Nat × Nat × (Nat → Nat) × (Nat → Nat)) (q : Nat → Nat) (d : Nat → ClassId) (I : Nat → Int32) (A : Nat → Nat → Int32) (hIv : IvX I A) : GM l D zt (tyX d) yX11_goOnFrom wz_k322_X11_goOnFrom ({ frames := 2, cells := 0, slots := 0, locals := 43 } : Room) [.ref (q 0), .ref (q 25)] (wX q d I A) (fun v _ w' => ∃ (I' : Nat → Int32) (A' : Nat → Nat → Int32), Md [17, 18, 21] I I' ∧ Md [7, 10] A A' ∧ IvX I' A' ∧ v = none ∧ w' = wX q d I' A') 0 0 := by
  refine GM.of (cc := cX11_goOnFrom) (maxL := 2) (ret := none) (own := RX11) (lv := [(0, .ref (q 0)), (1, .ref (q 25))]) (by decide) rfl rfl (Nat.le_of_ble_eq_true rfl) rfl (fun κ sz hk hR hN => ?_)
  have hin8 : ∀ w ∈ u_ws RX8 TX8 4, w ∈ wz_k322_X11_goOnFrom := fun w h => (List.mem_cons_of_mem _ (List.mem_append_right _ (List.mem_append_left _ h)))
  have hin11 : ∀ w ∈ u_ws RX11 TX11 10, w ∈ wz_k322_X11_goOnFrom := fun w h => (List.mem_cons_of_mem _ (List.mem_append_right _ (List.mem_append_right _ (List.mem_append_left _ h))))
  refine g_aload_n hk dX11_goOnFrom_0 rfl ?_
  refine gX_r0_2 hk hin11 (List.mem_cons_of_mem _ (List.mem_append_left _ (List.mem_of_getElem? (i := 0) rfl))) dX11_goOnFrom_1 ?_
  refine g_aload_n hk dX11_goOnFrom_4 rfl ?_
  refine g_callV (n := 1) hk (k323_X6_takeFrom l D zt q d I A  hIv) (SP.same _) (fun _ h => h) (gi_V (List.mem_cons_of_mem _ (List.mem_append_left _ (List.mem_of_getElem? (i := 1) rfl))) (List.mem_cons_of_mem _ (List.mem_append_left _ (List.mem_of_getElem? (i := 2) rfl))) (List.mem_cons_of_mem _ (List.mem_append_left _ (List.mem_of_getElem? (i := 3) rfl))) (List.mem_cons_of_mem _ (List.mem_append_left _ (List.mem_of_getElem? (i := 4) rfl))) (gi_sub (fun w h => (List.mem_cons_of_mem _ (List.mem_append_right _ (List.mem_append_right _ (List.mem_append_right _ (List.mem_append_left _ h)))))) zg_k323_X6_takeFrom)) rfl rfl rfl (by decide +kernel) ⟨Nat.le_of_ble_eq_true rfl, Nat.le_of_ble_eq_true rfl⟩ 13 rfl rfl rfl rfl (Nat.le_of_ble_eq_true rfl) ⟨Nat.le_of_ble_eq_true rfl, Nat.le_of_ble_eq_true rfl⟩ dX11_goOnFrom_5 (fun v ty' w' hp hk' => ?_)
  obtain ⟨I10155, A10155, hI10155, hA10155, hV10155, rfl, rfl⟩ := hp
  show GW κ 2 0 0 (wX q d I10155 A10155) 8 [(0, .ref (q 0)), (1, .ref (q 25))] []
  refine g_aload_n hk dX11_goOnFrom_8 rfl ?_
  refine gX_r0_4 hk hin11 (List.mem_cons_of_mem _ (List.mem_append_left _ (List.mem_of_getElem? (i := 5) rfl))) dX11_goOnFrom_9 ?_
  refine g_aload_n hk dX11_goOnFrom_12 rfl ?_
  refine gX_r25_2 hk hin8 (List.mem_cons_of_mem _ (List.mem_append_left _ (List.mem_of_getElem? (i := 6) rfl))) dX11_goOnFrom_13 ?_
  refine g_callV (n := 1) hk (k325_X7_takeFrom l D zt q d I10155 A10155  hV10155) (SP.same _) (fun _ h => h) (gi_V (List.mem_cons_of_mem _ (List.mem_append_left _ (List.mem_of_getElem? (i := 7) rfl))) (List.mem_cons_of_mem _ (List.mem_append_left _ (List.mem_of_getElem? (i := 8) rfl))) (List.mem_cons_of_mem _ (List.mem_append_left _ (List.mem_of_getElem? (i := 9) rfl))) (List.mem_cons_of_mem _ (List.mem_append_left _ (List.mem_of_getElem? (i := 10) rfl))) (gi_sub (fun w h => (List.mem_cons_of_mem _ (List.mem_append_right _ (List.mem_append_right _ (List.mem_append_right _ (List.mem_append_right _ (List.mem_append_left _ h))))))) zg_k325_X7_takeFrom)) rfl rfl rfl (by decide +kernel) ⟨Nat.le_of_ble_eq_true rfl, Nat.le_of_ble_eq_true rfl⟩ 18 rfl rfl rfl rfl (Nat.le_of_ble_eq_true rfl) ⟨Nat.le_of_ble_eq_true rfl, Nat.le_of_ble_eq_true rfl⟩ dX11_goOnFrom_16 (fun v ty' w' hp hk' => ?_)
  obtain ⟨I10187, A10187, hI10187, hA10187, hV10187, rfl, rfl⟩ := hp
  show GW κ 2 0 0 (wX q d I10187 A10187) 19 [(0, .ref (q 0)), (1, .ref (q 25))] []
  refine g_aload_n hk dX11_goOnFrom_19 rfl ?_
  refine gX_r0_5 hk hin11 (List.mem_cons_of_mem _ (List.mem_append_left _ (List.mem_of_getElem? (i := 11) rfl))) dX11_goOnFrom_20 ?_
  refine g_callV (n := 0) hk (k175_X3_forget l D zt q d I10187 A10187  hV10187) (SP.same _) (fun _ h => h) (gi_V (List.mem_cons_of_mem _ (List.mem_append_left _ (List.mem_of_getElem? (i := 12) rfl))) (List.mem_cons_of_mem _ (List.mem_append_left _ (List.mem_of_getElem? (i := 13) rfl))) (List.mem_cons_of_mem _ (List.mem_append_left _ (List.mem_of_getElem? (i := 14) rfl))) (List.mem_cons_of_mem _ (List.mem_append_left _ (List.mem_of_getElem? (i := 15) rfl))) (gi_sub (fun w h => (List.mem_cons_of_mem _ (List.mem_append_right _ (List.mem_append_right _ (List.mem_append_right _ (List.mem_append_right _ (List.mem_append_right _ (List.mem_append_left _ h)))))))) zg_k175_X3_forget)) rfl rfl rfl (by decide +kernel) ⟨Nat.le_of_ble_eq_true rfl, Nat.le_of_ble_eq_true rfl⟩ 20 rfl rfl rfl rfl (Nat.le_of_ble_eq_true rfl) ⟨Nat.le_of_ble_eq_true rfl, Nat.le_of_ble_eq_true rfl⟩ dX11_goOnFrom_23 (fun v ty' w' hp hk' => ?_)
  obtain ⟨I10189, A10189, hI10189, hA10189, hV10189, rfl, rfl⟩ := hp
  show GW κ 2 0 0 (wX q d I10189 A10189) 26 [(0, .ref (q 0)), (1, .ref (q 25))] []
  exact g_vret hk hR ⟨I10189, A10189, (show Md [17, 18, 21] I I10189 from (Md.tr (Md.tr (Md.tr Md.rf hI10155 rfl) hI10187 rfl) hI10189 rfl)), (show Md [7, 10] A A10189 from (Md.tr (Md.tr (Md.tr Md.rf hA10155 rfl) hA10187 rfl) hA10189 rfl)), hV10189, rfl, rfl⟩ dX11_goOnFrom_26
def wo_k329_X8_valueAt : List Cond := [Cond.fieldLink RX8 22 "WarpDesk$Stand" "size" "I", Cond.fieldLink RX8 9 "WarpDesk$Stand" "places" "[I"]
def wz_k329_X8_valueAt : List Cond := .code yX8_valueAt cX8_valueAt 2 (some .int) :: (wo_k329_X8_valueAt ++ (wsX80 ++ ([] : List Cond)))
theorem zg_k329_X8_valueAt : ∀ w ∈ wz_k329_X8_valueAt, goodWord w = true := zg_cons rfl (zg_app (by decide +kernel) (zg_app zgU_wsX80 zg_nil))
theorem zi_k329_X8_valueAt : ∀ w ∈ wz_k329_X8_valueAt, w ∈ lw_tbl := zi_cons zw_776 (zi_app (zi_cons zw_195 (zi_cons zw_194 zi_nil)) (zi_app inX8 zi_nil))
set_option maxHeartbeats 4000000 in
set_option maxRecDepth 100000 in
theorem k329_X8_valueAt (l : Launch) (D : va_G) (zt : Nat × Nat × Nat × (Nat → Nat) × (Nat → Nat)) (q : Nat → Nat) (d : Nat → ClassId) (I : Nat → Int32) (A : Nat → Nat → Int32) (z1 : Int32) (hIv : IvX I A) : GM l D zt (tyX d) yX8_valueAt wz_k329_X8_valueAt ({ frames := 0, cells := 0, slots := 0, locals := 0 } : Room) [.ref (q 29), .int z1] (wX q d I A) (fun v _ w' => ∃ y0 : Int32, v = some (.int y0) ∧ w' = wX q d I A) 0 0 := by
  refine GM.of (cc := cX8_valueAt) (maxL := 2) (ret := (some .int)) (own := RX8) (lv := [(0, .ref (q 29)), (1, .int z1)]) (by decide) rfl rfl (Nat.le_of_ble_eq_true rfl) rfl (fun κ sz hk hR hN => ?_)
  have hin8 : ∀ w ∈ u_ws RX8 TX8 4, w ∈ wz_k329_X8_valueAt := fun w h => (List.mem_cons_of_mem _ (List.mem_append_right _ (List.mem_append_left _ h)))
  refine g_iload_n hk dX8_valueAt_0 rfl ?_
  have b10201l := Int32.le_toInt z1
  have b10201h := Int32.toInt_lt z1
  refine g_if_lt (tgt := 30) (a := z1.toInt) hk dX8_valueAt_1 (by decide) rfl (fun c10202 => ?_) (fun c10202 => ?_)
  · skip
    refine g_sipush (v := (-1000)) hk dX8_valueAt_30 (by decide) ?_
    exact g_iret hk hR rfl ⟨(-1000), rfl, rfl⟩ dX8_valueAt_33
  · skip
    refine g_iload_n hk dX8_valueAt_4 rfl ?_
    refine g_aload_n hk dX8_valueAt_5 rfl ?_
    refine gX_i24 (v := (I 24)) hk hin8 (List.mem_cons_of_mem _ (List.mem_append_left _ (List.mem_of_getElem? (i := 0) rfl))) dX8_valueAt_6 rfl ?_
    have b10203l := Int32.le_toInt (I 24)
    have b10203h := Int32.toInt_lt (I 24)
    refine g_icmp_ge (tgt := 30) (a := z1.toInt) (b := (I 24).toInt) hk dX8_valueAt_9 (by decide) rfl rfl (fun c10204 => ?_) (fun c10204 => ?_)
    · skip
      refine g_sipush (v := (-1000)) hk dX8_valueAt_30 (by decide) ?_
      exact g_iret hk hR rfl ⟨(-1000), rfl, rfl⟩ dX8_valueAt_33
    · skip
      refine g_iload_n hk dX8_valueAt_12 rfl ?_
      refine g_aload_n hk dX8_valueAt_13 rfl ?_
      refine gX_r29_0 hk hin8 (List.mem_cons_of_mem _ (List.mem_append_left _ (List.mem_of_getElem? (i := 1) rfl))) dX8_valueAt_14 ?_
      refine nX_17 hk dX8_valueAt_17 ?_
      refine g_icmp_ge (tgt := 30) (a := z1.toInt) (b := 160) hk dX8_valueAt_18 (by decide) rfl rfl (fun c10205 => ?_) (fun c10205 => ?_)
      · skip
        refine g_sipush (v := (-1000)) hk dX8_valueAt_30 (by decide) ?_
        exact g_iret hk hR rfl ⟨(-1000), rfl, rfl⟩ dX8_valueAt_33
      · skip
        refine g_aload_n hk dX8_valueAt_21 rfl ?_
        refine gX_r29_0 hk hin8 (List.mem_cons_of_mem _ (List.mem_append_left _ (List.mem_of_getElem? (i := 1) rfl))) dX8_valueAt_22 ?_
        refine g_iload_n hk dX8_valueAt_25 rfl ?_
        refine lX_17 (v := (A 17 z1.toNatClampNeg)) hk (vp_in_iff.mpr ⟨by omega, by omega⟩) rfl dX8_valueAt_26 ?_
        refine g_goto (tgt := 33) hk dX8_valueAt_27 (by decide) ?_
        have b10206l := Int32.le_toInt (A 17 z1.toNatClampNeg)
        have b10206h := Int32.toInt_lt (A 17 z1.toNatClampNeg)
        exact g_iret hk hR rfl ⟨(A 17 z1.toNatClampNeg), rfl, rfl⟩ dX8_valueAt_33
def wo_k328_X6_takeFrom : List Cond := [Cond.fieldLink RX6 15 "WarpDesk$Series" "first" "I", Cond.fieldLink RX6 19 "WarpDesk$Series" "size" "I", Cond.fieldLink RX6 22 "WarpDesk$Stand" "size" "I", Cond.methodLink RX6 25 yX8_valueAt, Cond.instanceMethod yX8_valueAt, Cond.selects RX8 yX8_valueAt yX8_valueAt, Cond.initialized RX8, Cond.methodLink RX6 29 yX6_append, Cond.instanceMethod yX6_append, Cond.selects RX6 yX6_append yX6_append, Cond.initialized RX6]
def wz_k328_X6_takeFrom : List Cond := .code yX6_takeFrom cX6_takeFrom 3 none :: (wo_k328_X6_takeFrom ++ (wsX60 ++ (wsX80 ++ (wz_k329_X8_valueAt ++ (wz_k172_X6_append ++ ([] : List Cond))))))
theorem zg_k328_X6_takeFrom : ∀ w ∈ wz_k328_X6_takeFrom, goodWord w = true := zg_cons rfl (zg_app (by decide +kernel) (zg_app zgU_wsX60 (zg_app zgU_wsX80 (zg_app zg_k329_X8_valueAt (zg_app zg_k172_X6_append zg_nil)))))
theorem zi_k328_X6_takeFrom : ∀ w ∈ wz_k328_X6_takeFrom, w ∈ lw_tbl := zi_cons zw_772 (zi_app (zi_cons zw_281 (zi_cons zw_282 (zi_cons zw_196 (zi_cons zw_773 (zi_cons zw_774 (zi_cons zw_775 (zi_cons zw_106 (zi_cons zw_777 (zi_cons zw_778 (zi_cons zw_779 (zi_cons zw_109 zi_nil))))))))))) (zi_app inX6 (zi_app inX8 (zi_app zi_k329_X8_valueAt (zi_app zi_k172_X6_append zi_nil)))))
set_option maxHeartbeats 4000000 in
set_option maxRecDepth 100000 in
theorem k328_X6_takeFrom (l : Launch) (D : va_G) (zt : Nat × Nat × Nat × (Nat → Nat) × (Nat → Nat)) (q : Nat → Nat) (d : Nat → ClassId) (I : Nat → Int32) (A : Nat → Nat → Int32) (hIv : IvX I A) : GM l D zt (tyX d) yX6_takeFrom wz_k328_X6_takeFrom ({ frames := 1, cells := 0, slots := 0, locals := 21 } : Room) [.ref (q 13), .ref (q 29)] (wX q d I A) (fun v _ w' => ∃ (I' : Nat → Int32) (A' : Nat → Nat → Int32), Md [17, 18] I I' ∧ Md [7] A A' ∧ IvX I' A' ∧ v = none ∧ w' = wX q d I' A') 0 0 := by
  refine GM.of (cc := cX6_takeFrom) (maxL := 3) (ret := none) (own := RX6) (lv := [(0, .ref (q 13)), (1, .ref (q 29))]) (by decide) rfl rfl (Nat.le_of_ble_eq_true rfl) rfl (fun κ sz hk hR hN => ?_)
  have hin6 : ∀ w ∈ u_ws RX6 TX6 3, w ∈ wz_k328_X6_takeFrom := fun w h => (List.mem_cons_of_mem _ (List.mem_append_right _ (List.mem_append_left _ h)))
  have hin8 : ∀ w ∈ u_ws RX8 TX8 4, w ∈ wz_k328_X6_takeFrom := fun w h => (List.mem_cons_of_mem _ (List.mem_append_right _ (List.mem_append_right _ (List.mem_append_left _ h))))
  refine g_aload_n hk dX6_takeFrom_0 rfl ?_
  refine g_iconst (v := 0) hk dX6_takeFrom_1 (by decide) ?_
  refine pX_i17 hk hin6 (List.mem_cons_of_mem _ (List.mem_append_left _ (List.mem_of_getElem? (i := 0) rfl))) dX6_takeFrom_2 ?_
  refine g_aload_n hk dX6_takeFrom_5 rfl ?_
  refine g_iconst (v := 0) hk dX6_takeFrom_6 (by decide) ?_
  refine pX_i18 hk hin6 (List.mem_cons_of_mem _ (List.mem_append_left _ (List.mem_of_getElem? (i := 1) rfl))) dX6_takeFrom_7 ?_
  refine g_iconst (v := 0) hk dX6_takeFrom_10 (by decide) ?_
  refine g_istore_n (lv' := [(2, .int 0), (0, .ref (q 13)), (1, .ref (q 29))]) hk dX6_takeFrom_11 (by decide) rfl ?_
  have lp10231 : ∀ (n10232 : Nat) (x10195 : Int32) (I10198 : Nat → Int32) (A10198 : Nat → Nat → Int32), (Md [17, 18] (upd (upd I 17 0) 18 0) I10198) → (Md [7] A A10198) → (IvX I10198 A10198) → (0 ≤ x10195.toInt) → ((I 24).toInt + 1 - x10195.toInt < (n10232 : Int)) → (0 < n10232) → GW κ 3 0 0 (wX q d I10198 A10198) 12 [(2, .int x10195), (0, .ref (q 13)), (1, .ref (q 29))] [] := by
    intro n10232
    induction n10232 with
    | zero =>
      intro x10195 I10198 A10198 hI10198 hA10198 hV10198 h10230 m10233 m10233z
      exact absurd m10233z (Nat.lt_irrefl 0)
    | succ n10232 ih10234 =>
      intro x10195 I10198 A10198 hI10198 hA10198 hV10198 h10230 m10233 m10233z
      refine g_iload_n hk dX6_takeFrom_12 rfl ?_
      refine g_aload_n hk dX6_takeFrom_13 rfl ?_
      refine gX_i24 (v := (I 24)) hk hin8 (List.mem_cons_of_mem _ (List.mem_append_left _ (List.mem_of_getElem? (i := 2) rfl))) dX6_takeFrom_14 (hI10198 24 rfl) ?_
      have b10235l := Int32.le_toInt x10195
      have b10235h := Int32.toInt_lt x10195
      have b10236l := Int32.le_toInt (I 24)
      have b10236h := Int32.toInt_lt (I 24)
      refine g_icmp_ge (tgt := 36) (a := x10195.toInt) (b := (I 24).toInt) hk dX6_takeFrom_17 (by decide) rfl rfl (fun c10237 => ?_) (fun c10237 => ?_)
      · skip
        exact g_vret hk hR ⟨I10198, A10198, (show Md [17, 18] I I10198 from (Md.tr (Md.up (Md.up Md.rf rfl) rfl) hI10198 rfl)), (show Md [7] A A10198 from (Md.tr Md.rf hA10198 rfl)), hV10198, rfl, rfl⟩ dX6_takeFrom_36
      · skip
        refine g_aload_n hk dX6_takeFrom_20 rfl ?_
        refine g_aload_n hk dX6_takeFrom_21 rfl ?_
        refine g_iload_n hk dX6_takeFrom_22 rfl ?_
        refine g_callV (n := 1) hk (k329_X8_valueAt l D zt q d I10198 A10198 x10195 hV10198) (SP.same _) (fun _ h => h) (gi_V (List.mem_cons_of_mem _ (List.mem_append_left _ (List.mem_of_getElem? (i := 3) rfl))) (List.mem_cons_of_mem _ (List.mem_append_left _ (List.mem_of_getElem? (i := 4) rfl))) (List.mem_cons_of_mem _ (List.mem_append_left _ (List.mem_of_getElem? (i := 5) rfl))) (List.mem_cons_of_mem _ (List.mem_append_left _ (List.mem_of_getElem? (i := 6) rfl))) (gi_sub (fun w h => (List.mem_cons_of_mem _ (List.mem_append_right _ (List.mem_append_right _ (List.mem_append_right _ (List.mem_append_left _ h)))))) zg_k329_X8_valueAt)) rfl rfl rfl (by decide +kernel) ⟨Nat.le_of_ble_eq_true rfl, Nat.le_of_ble_eq_true rfl⟩ 29 rfl rfl rfl rfl (Nat.le_of_ble_eq_true rfl) ⟨Nat.le_of_ble_eq_true rfl, Nat.le_of_ble_eq_true rfl⟩ dX6_takeFrom_23 (fun v ty' w' hp hk' => ?_)
        obtain ⟨y10238, rfl, rfl⟩ := hp
        show GW κ 3 0 0 (wX q d I10198 A10198) 26 [(2, .int x10195), (0, .ref (q 13)), (1, .ref (q 29))] [.int y10238, .ref (q 13)]
        refine g_callV (n := 1) hk (k172_X6_append l D zt q d I10198 A10198 y10238 hV10198) (SP.same _) (fun _ h => h) (gi_V (List.mem_cons_of_mem _ (List.mem_append_left _ (List.mem_of_getElem? (i := 7) rfl))) (List.mem_cons_of_mem _ (List.mem_append_left _ (List.mem_of_getElem? (i := 8) rfl))) (List.mem_cons_of_mem _ (List.mem_append_left _ (List.mem_of_getElem? (i := 9) rfl))) (List.mem_cons_of_mem _ (List.mem_append_left _ (List.mem_of_getElem? (i := 10) rfl))) (gi_sub (fun w h => (List.mem_cons_of_mem _ (List.mem_append_right _ (List.mem_append_right _ (List.mem_append_right _ (List.mem_append_right _ (List.mem_append_left _ h))))))) zg_k172_X6_append)) rfl rfl rfl (by decide +kernel) ⟨Nat.le_of_ble_eq_true rfl, Nat.le_of_ble_eq_true rfl⟩ 13 rfl rfl rfl rfl (Nat.le_of_ble_eq_true rfl) ⟨Nat.le_of_ble_eq_true rfl, Nat.le_of_ble_eq_true rfl⟩ dX6_takeFrom_26 (fun v ty' w' hp hk' => ?_)
        obtain ⟨I10242, A10242, hI10242, hA10242, hV10242, y10239, c10240, c10241, rfl, rfl⟩ := hp
        show GW κ 3 0 0 (wX q d I10242 A10242) 29 [(2, .int x10195), (0, .ref (q 13)), (1, .ref (q 29))] [.int y10239]
        refine g_pop hk dX6_takeFrom_29 rfl ?_
        obtain ⟨y10243, ey10243⟩ : ∃ y : Int32, y = x10195 + Int32.ofInt 1 := ⟨_, rfl⟩
        have hy10243 : y10243.toInt = x10195.toInt + 1 := i32_add ey10243 rfl (by decide) (by omega) (by omega)
        refine g_iinc (v := y10243) (lv' := [(2, .int y10243), (0, .ref (q 13)), (1, .ref (q 29))]) hk 0 dX6_takeFrom_30 rfl ey10243.symm (by decide) rfl ?_
        refine g_goto (tgt := 12) hk dX6_takeFrom_33 (by decide) ?_
        exact g_lv (List.forall_mem_cons.mpr ⟨List.mem_of_getElem? (i := 0) rfl, (List.forall_mem_cons.mpr ⟨List.mem_of_getElem? (i := 1) rfl, (List.forall_mem_cons.mpr ⟨List.mem_of_getElem? (i := 2) rfl, (fun _ h => absurd h List.not_mem_nil)⟩)⟩)⟩) (ih10234 y10243 I10242 A10242 (show Md [17, 18] (upd (upd I 17 0) 18 0) I10242 from Md.tr hI10198 (show Md [17, 18] I10198 I10242 from (Md.tr Md.rf hI10242 rfl)) rfl) (show Md [7] A A10242 from Md.tr hA10198 (show Md [7] A10198 A10242 from (Md.tr Md.rf hA10242 rfl)) rfl) hV10242 (by omega) (by omega) (by omega))
  have k10245 : (0 : Int32).toInt = 0 := rfl
  obtain ⟨n10244, n10244a, n10244b⟩ : ∃ n : Nat, (I 24).toInt + 1 - 0 < (n : Int) ∧ 0 < n := ⟨(((I 24).toInt + 1 - 0 : Int)).toNat + 1, by omega, by omega⟩
  exact lp10231 n10244 0 (upd (upd I 17 0) 18 0) A Md.rf Md.rf ⟨(IvX_f0 (I := I) (A := A) hIv), (show 0 ≤ (0 : Int32).toInt ∧ (0 : Int32).toInt ≤ 160 from ⟨by decide, by decide⟩), (IvX_f30 (I := I) (A := A) hIv), (IvX_f31 (I := I) (A := A) hIv), (IvX_a4 (I := I) (A := A) hIv), (IvX_a9 (I := I) (A := A) hIv), trivial⟩ (by omega) n10244a n10244b
def wo_k331_X7_valueOf : List Cond := [Cond.fieldLink RX7 20 "WarpDesk$Settings" "values" "[I"]
def wz_k331_X7_valueOf : List Cond := .code yX7_valueOf cX7_valueOf 2 (some .int) :: (wo_k331_X7_valueOf ++ (wsX70 ++ ([] : List Cond)))
theorem zg_k331_X7_valueOf : ∀ w ∈ wz_k331_X7_valueOf, goodWord w = true := zg_cons rfl (zg_app (by decide +kernel) (zg_app zgU_wsX70 zg_nil))
theorem zi_k331_X7_valueOf : ∀ w ∈ wz_k331_X7_valueOf, w ∈ lw_tbl := zi_cons zw_788 (zi_app (zi_cons zw_190 zi_nil) (zi_app inX7 zi_nil))
set_option maxHeartbeats 4000000 in
set_option maxRecDepth 100000 in
theorem k331_X7_valueOf (l : Launch) (D : va_G) (zt : Nat × Nat × Nat × (Nat → Nat) × (Nat → Nat)) (q : Nat → Nat) (d : Nat → ClassId) (I : Nat → Int32) (A : Nat → Nat → Int32) (z1 : Int32) (hIv : IvX I A) : GM l D zt (tyX d) yX7_valueOf wz_k331_X7_valueOf ({ frames := 0, cells := 0, slots := 0, locals := 0 } : Room) [.ref (q 31), .int z1] (wX q d I A) (fun v _ w' => ∃ y0 : Int32, v = some (.int y0) ∧ w' = wX q d I A) 0 0 := by
  refine GM.of (cc := cX7_valueOf) (maxL := 2) (ret := (some .int)) (own := RX7) (lv := [(0, .ref (q 31)), (1, .int z1)]) (by decide) rfl rfl (Nat.le_of_ble_eq_true rfl) rfl (fun κ sz hk hR hN => ?_)
  have hin7 : ∀ w ∈ u_ws RX7 TX7 1, w ∈ wz_k331_X7_valueOf := fun w h => (List.mem_cons_of_mem _ (List.mem_append_right _ (List.mem_append_left _ h)))
  refine g_iload_n hk dX7_valueOf_0 rfl ?_
  have b10252l := Int32.le_toInt z1
  have b10252h := Int32.toInt_lt z1
  refine g_if_lt (tgt := 22) (a := z1.toInt) hk dX7_valueOf_1 (by decide) rfl (fun c10253 => ?_) (fun c10253 => ?_)
  · skip
    refine g_iconst (v := (-1)) hk dX7_valueOf_22 (by decide) ?_
    exact g_iret hk hR rfl ⟨(-1), rfl, rfl⟩ dX7_valueOf_23
  · skip
    refine g_iload_n hk dX7_valueOf_4 rfl ?_
    refine g_aload_n hk dX7_valueOf_5 rfl ?_
    refine gX_r31_0 hk hin7 (List.mem_cons_of_mem _ (List.mem_append_left _ (List.mem_of_getElem? (i := 0) rfl))) dX7_valueOf_6 ?_
    refine nX_18 hk dX7_valueOf_9 ?_
    refine g_icmp_ge (tgt := 22) (a := z1.toInt) (b := 4) hk dX7_valueOf_10 (by decide) rfl rfl (fun c10254 => ?_) (fun c10254 => ?_)
    · skip
      refine g_iconst (v := (-1)) hk dX7_valueOf_22 (by decide) ?_
      exact g_iret hk hR rfl ⟨(-1), rfl, rfl⟩ dX7_valueOf_23
    · skip
      refine g_aload_n hk dX7_valueOf_13 rfl ?_
      refine gX_r31_0 hk hin7 (List.mem_cons_of_mem _ (List.mem_append_left _ (List.mem_of_getElem? (i := 0) rfl))) dX7_valueOf_14 ?_
      refine g_iload_n hk dX7_valueOf_17 rfl ?_
      refine lX_18 (v := (A 18 z1.toNatClampNeg)) hk (vp_in_iff.mpr ⟨by omega, by omega⟩) rfl dX7_valueOf_18 ?_
      refine g_goto (tgt := 23) hk dX7_valueOf_19 (by decide) ?_
      have b10255l := Int32.le_toInt (A 18 z1.toNatClampNeg)
      have b10255h := Int32.toInt_lt (A 18 z1.toNatClampNeg)
      exact g_iret hk hR rfl ⟨(A 18 z1.toNatClampNeg), rfl, rfl⟩ dX7_valueOf_23
def wo_k330_X7_takeFrom : List Cond := [Cond.fieldLink RX7 20 "WarpDesk$Settings" "values" "[I", Cond.methodLink RX7 33 yX7_valueOf, Cond.instanceMethod yX7_valueOf, Cond.selects RX7 yX7_valueOf yX7_valueOf, Cond.initialized RX7]
def wz_k330_X7_takeFrom : List Cond := .code yX7_takeFrom cX7_takeFrom 3 none :: (wo_k330_X7_takeFrom ++ (wsX70 ++ (wz_k331_X7_valueOf ++ ([] : List Cond))))
theorem zg_k330_X7_takeFrom : ∀ w ∈ wz_k330_X7_takeFrom, goodWord w = true := zg_cons rfl (zg_app (by decide +kernel) (zg_app zgU_wsX70 (zg_app zg_k331_X7_valueOf zg_nil)))
theorem zi_k330_X7_takeFrom : ∀ w ∈ wz_k330_X7_takeFrom, w ∈ lw_tbl := zi_cons zw_784 (zi_app (zi_cons zw_190 (zi_cons zw_785 (zi_cons zw_786 (zi_cons zw_787 (zi_cons zw_107 zi_nil))))) (zi_app inX7 (zi_app zi_k331_X7_valueOf zi_nil)))
set_option maxHeartbeats 4000000 in
set_option maxRecDepth 100000 in
theorem k330_X7_takeFrom (l : Launch) (D : va_G) (zt : Nat × Nat × Nat × (Nat → Nat) × (Nat → Nat)) (q : Nat → Nat) (d : Nat → ClassId) (I : Nat → Int32) (A : Nat → Nat → Int32) (hIv : IvX I A) : GM l D zt (tyX d) yX7_takeFrom wz_k330_X7_takeFrom ({ frames := 1, cells := 0, slots := 0, locals := 21 } : Room) [.ref (q 18), .ref (q 31)] (wX q d I A) (fun v _ w' => ∃ (I' : Nat → Int32) (A' : Nat → Nat → Int32), Md [] I I' ∧ Md [10] A A' ∧ IvX I' A' ∧ v = none ∧ w' = wX q d I' A') 0 0 := by
  refine GM.of (cc := cX7_takeFrom) (maxL := 3) (ret := none) (own := RX7) (lv := [(0, .ref (q 18)), (1, .ref (q 31))]) (by decide) rfl rfl (Nat.le_of_ble_eq_true rfl) rfl (fun κ sz hk hR hN => ?_)
  have hin7 : ∀ w ∈ u_ws RX7 TX7 1, w ∈ wz_k330_X7_takeFrom := fun w h => (List.mem_cons_of_mem _ (List.mem_append_right _ (List.mem_append_left _ h)))
  refine g_iconst (v := 0) hk dX7_takeFrom_0 (by decide) ?_
  refine g_istore_n (lv' := [(2, .int 0), (0, .ref (q 18)), (1, .ref (q 31))]) hk dX7_takeFrom_1 (by decide) rfl ?_
  have lp10269 : ∀ (n10270 : Nat) (x10248 : Int32) (I10251 : Nat → Int32) (A10251 : Nat → Nat → Int32), (Md [] I I10251) → (Md [10] A A10251) → (IvX I10251 A10251) → (0 ≤ x10248.toInt) → (x10248.toInt ≤ 4) → (5 - x10248.toInt < (n10270 : Int)) → (0 < n10270) → GW κ 3 0 0 (wX q d I10251 A10251) 2 [(2, .int x10248), (0, .ref (q 18)), (1, .ref (q 31))] [] := by
    intro n10270
    induction n10270 with
    | zero =>
      intro x10248 I10251 A10251 hI10251 hA10251 hV10251 h10267 h10268 m10271 m10271z
      exact absurd m10271z (Nat.lt_irrefl 0)
    | succ n10270 ih10272 =>
      intro x10248 I10251 A10251 hI10251 hA10251 hV10251 h10267 h10268 m10271 m10271z
      refine g_iload_n hk dX7_takeFrom_2 rfl ?_
      refine g_aload_n hk dX7_takeFrom_3 rfl ?_
      refine gX_r18_0 hk hin7 (List.mem_cons_of_mem _ (List.mem_append_left _ (List.mem_of_getElem? (i := 0) rfl))) dX7_takeFrom_4 ?_
      refine nX_10 hk dX7_takeFrom_7 ?_
      refine g_icmp_ge (tgt := 28) (a := x10248.toInt) (b := 4) hk dX7_takeFrom_8 (by decide) rfl rfl (fun c10273 => ?_) (fun c10273 => ?_)
      · skip
        exact g_vret hk hR ⟨I10251, A10251, (show Md [] I I10251 from (Md.tr Md.rf hI10251 rfl)), (show Md [10] A A10251 from (Md.tr Md.rf hA10251 rfl)), hV10251, rfl, rfl⟩ dX7_takeFrom_28
      · skip
        refine g_aload_n hk dX7_takeFrom_11 rfl ?_
        refine gX_r18_0 hk hin7 (List.mem_cons_of_mem _ (List.mem_append_left _ (List.mem_of_getElem? (i := 0) rfl))) dX7_takeFrom_12 ?_
        refine g_iload_n hk dX7_takeFrom_15 rfl ?_
        refine g_aload_n hk dX7_takeFrom_16 rfl ?_
        refine g_iload_n hk dX7_takeFrom_17 rfl ?_
        refine g_callV (n := 1) hk (k331_X7_valueOf l D zt q d I10251 A10251 x10248 hV10251) (SP.same _) (fun _ h => h) (gi_V (List.mem_cons_of_mem _ (List.mem_append_left _ (List.mem_of_getElem? (i := 1) rfl))) (List.mem_cons_of_mem _ (List.mem_append_left _ (List.mem_of_getElem? (i := 2) rfl))) (List.mem_cons_of_mem _ (List.mem_append_left _ (List.mem_of_getElem? (i := 3) rfl))) (List.mem_cons_of_mem _ (List.mem_append_left _ (List.mem_of_getElem? (i := 4) rfl))) (gi_sub (fun w h => (List.mem_cons_of_mem _ (List.mem_append_right _ (List.mem_append_right _ (List.mem_append_left _ h))))) zg_k331_X7_valueOf)) rfl rfl rfl (by decide +kernel) ⟨Nat.le_of_ble_eq_true rfl, Nat.le_of_ble_eq_true rfl⟩ 31 rfl rfl rfl rfl (Nat.le_of_ble_eq_true rfl) ⟨Nat.le_of_ble_eq_true rfl, Nat.le_of_ble_eq_true rfl⟩ dX7_takeFrom_18 (fun v ty' w' hp hk' => ?_)
        obtain ⟨y10274, rfl, rfl⟩ := hp
        show GW κ 3 0 0 (wX q d I10251 A10251) 21 [(2, .int x10248), (0, .ref (q 18)), (1, .ref (q 31))] [.int y10274, .int x10248, .ref (q 19)]
        refine sX_10 (j := x10248.toNatClampNeg) hk (vp_in_iff.mpr ⟨by omega, by omega⟩) rfl dX7_takeFrom_21 ?_
        obtain ⟨y10275, ey10275⟩ : ∃ y : Int32, y = x10248 + Int32.ofInt 1 := ⟨_, rfl⟩
        have hy10275 : y10275.toInt = x10248.toInt + 1 := i32_add ey10275 rfl (by decide) (by omega) (by omega)
        refine g_iinc (v := y10275) (lv' := [(2, .int y10275), (0, .ref (q 18)), (1, .ref (q 31))]) hk 0 dX7_takeFrom_22 rfl ey10275.symm (by decide) rfl ?_
        refine g_goto (tgt := 2) hk dX7_takeFrom_25 (by decide) ?_
        exact g_lv (List.forall_mem_cons.mpr ⟨List.mem_of_getElem? (i := 0) rfl, (List.forall_mem_cons.mpr ⟨List.mem_of_getElem? (i := 1) rfl, (List.forall_mem_cons.mpr ⟨List.mem_of_getElem? (i := 2) rfl, (fun _ h => absurd h List.not_mem_nil)⟩)⟩)⟩) (ih10272 y10275 I10251 (up3 A10251 10 (x10248.toNatClampNeg) y10274) (show Md [] I I10251 from Md.tr hI10251 (show Md [] I10251 I10251 from Md.rf) rfl) (show Md [10] A (up3 A10251 10 (x10248.toNatClampNeg) y10274) from Md.tr hA10251 (show Md [10] A10251 (up3 A10251 10 (x10248.toNatClampNeg) y10274) from (Md.up3 Md.rf rfl)) rfl) ⟨(IvX_f0 (I := I10251) (A := A10251) hV10251), (IvX_f18 (I := I10251) (A := A10251) hV10251), (IvX_f30 (I := I10251) (A := A10251) hV10251), (IvX_f31 (I := I10251) (A := A10251) hV10251), (IvX_a4 (I := I10251) (A := A10251) hV10251), (IvX_a9 (I := I10251) (A := A10251) hV10251), trivial⟩ (by omega) (by omega) (by omega) (by omega))
  have k10277 : (0 : Int32).toInt = 0 := rfl
  obtain ⟨n10276, n10276a, n10276b⟩ : ∃ n : Nat, 5 - 0 < (n : Int) ∧ 0 < n := ⟨((5 - 0 : Int)).toNat + 1, by omega, by omega⟩
  exact lp10269 n10276 0 I A Md.rf Md.rf hIv (by omega) (by omega) n10276a n10276b
def wo_k327_X11_goOnFrom : List Cond := [Cond.fieldLink RX11 28 "WarpDesk" "series" "LWarpDesk$Series;", Cond.methodLink RX11 369 yX6_takeFrom, Cond.instanceMethod yX6_takeFrom, Cond.selects RX6 yX6_takeFrom yX6_takeFrom, Cond.initialized RX6, Cond.fieldLink RX11 42 "WarpDesk" "settings" "LWarpDesk$Settings;", Cond.fieldLink RX11 365 "WarpDesk$Stand" "settings" "LWarpDesk$Settings;", Cond.methodLink RX11 366 yX7_takeFrom, Cond.instanceMethod yX7_takeFrom, Cond.selects RX7 yX7_takeFrom yX7_takeFrom, Cond.initialized RX7, Cond.fieldLink RX11 49 "WarpDesk" "past" "LWarpDesk$Past;", Cond.methodLink RX11 371 yX3_forget, Cond.instanceMethod yX3_forget, Cond.selects RX3 yX3_forget yX3_forget, Cond.initialized RX3]
def wz_k327_X11_goOnFrom : List Cond := .code yX11_goOnFrom cX11_goOnFrom 2 none :: (wo_k327_X11_goOnFrom ++ (wsX80 ++ (wsX110 ++ (wz_k328_X6_takeFrom ++ (wz_k330_X7_takeFrom ++ (wz_k175_X3_forget ++ ([] : List Cond)))))))
theorem zg_k327_X11_goOnFrom : ∀ w ∈ wz_k327_X11_goOnFrom, goodWord w = true := zg_cons rfl (zg_app (by decide +kernel) (zg_app zgU_wsX80 (zg_app zgU_wsX110 (zg_app zg_k328_X6_takeFrom (zg_app zg_k330_X7_takeFrom (zg_app zg_k175_X3_forget zg_nil))))))
theorem zi_k327_X11_goOnFrom : ∀ w ∈ wz_k327_X11_goOnFrom, w ∈ lw_tbl := zi_cons zw_768 (zi_app (zi_cons zw_489 (zi_cons zw_769 (zi_cons zw_770 (zi_cons zw_771 (zi_cons zw_109 (zi_cons zw_491 (zi_cons zw_200 (zi_cons zw_781 (zi_cons zw_782 (zi_cons zw_783 (zi_cons zw_107 (zi_cons zw_492 (zi_cons zw_789 (zi_cons zw_790 (zi_cons zw_791 (zi_cons zw_110 zi_nil)))))))))))))))) (zi_app inX8 (zi_app inX11 (zi_app zi_k328_X6_takeFrom (zi_app zi_k330_X7_takeFrom (zi_app zi_k175_X3_forget zi_nil))))))
set_option maxHeartbeats 4000000 in
set_option maxRecDepth 100000 in
theorem k327_X11_goOnFrom (l : Launch) (D : va_G) (zt : Nat × Nat × Nat × (Nat → Nat) × (Nat → Nat)) (q : Nat → Nat) (d : Nat → ClassId) (I : Nat → Int32) (A : Nat → Nat → Int32) (hIv : IvX I A) : GM l D zt (tyX d) yX11_goOnFrom wz_k327_X11_goOnFrom ({ frames := 2, cells := 0, slots := 0, locals := 43 } : Room) [.ref (q 0), .ref (q 29)] (wX q d I A) (fun v _ w' => ∃ (I' : Nat → Int32) (A' : Nat → Nat → Int32), Md [17, 18, 21] I I' ∧ Md [7, 10] A A' ∧ IvX I' A' ∧ v = none ∧ w' = wX q d I' A') 0 0 := by
  refine GM.of (cc := cX11_goOnFrom) (maxL := 2) (ret := none) (own := RX11) (lv := [(0, .ref (q 0)), (1, .ref (q 29))]) (by decide) rfl rfl (Nat.le_of_ble_eq_true rfl) rfl (fun κ sz hk hR hN => ?_)
  have hin8 : ∀ w ∈ u_ws RX8 TX8 4, w ∈ wz_k327_X11_goOnFrom := fun w h => (List.mem_cons_of_mem _ (List.mem_append_right _ (List.mem_append_left _ h)))
  have hin11 : ∀ w ∈ u_ws RX11 TX11 10, w ∈ wz_k327_X11_goOnFrom := fun w h => (List.mem_cons_of_mem _ (List.mem_append_right _ (List.mem_append_right _ (List.mem_append_left _ h))))
  refine g_aload_n hk dX11_goOnFrom_0 rfl ?_
  refine gX_r0_2 hk hin11 (List.mem_cons_of_mem _ (List.mem_append_left _ (List.mem_of_getElem? (i := 0) rfl))) dX11_goOnFrom_1 ?_
  refine g_aload_n hk dX11_goOnFrom_4 rfl ?_
  refine g_callV (n := 1) hk (k328_X6_takeFrom l D zt q d I A  hIv) (SP.same _) (fun _ h => h) (gi_V (List.mem_cons_of_mem _ (List.mem_append_left _ (List.mem_of_getElem? (i := 1) rfl))) (List.mem_cons_of_mem _ (List.mem_append_left _ (List.mem_of_getElem? (i := 2) rfl))) (List.mem_cons_of_mem _ (List.mem_append_left _ (List.mem_of_getElem? (i := 3) rfl))) (List.mem_cons_of_mem _ (List.mem_append_left _ (List.mem_of_getElem? (i := 4) rfl))) (gi_sub (fun w h => (List.mem_cons_of_mem _ (List.mem_append_right _ (List.mem_append_right _ (List.mem_append_right _ (List.mem_append_left _ h)))))) zg_k328_X6_takeFrom)) rfl rfl rfl (by decide +kernel) ⟨Nat.le_of_ble_eq_true rfl, Nat.le_of_ble_eq_true rfl⟩ 13 rfl rfl rfl rfl (Nat.le_of_ble_eq_true rfl) ⟨Nat.le_of_ble_eq_true rfl, Nat.le_of_ble_eq_true rfl⟩ dX11_goOnFrom_5 (fun v ty' w' hp hk' => ?_)
  obtain ⟨I10247, A10247, hI10247, hA10247, hV10247, rfl, rfl⟩ := hp
  show GW κ 2 0 0 (wX q d I10247 A10247) 8 [(0, .ref (q 0)), (1, .ref (q 29))] []
  refine g_aload_n hk dX11_goOnFrom_8 rfl ?_
  refine gX_r0_4 hk hin11 (List.mem_cons_of_mem _ (List.mem_append_left _ (List.mem_of_getElem? (i := 5) rfl))) dX11_goOnFrom_9 ?_
  refine g_aload_n hk dX11_goOnFrom_12 rfl ?_
  refine gX_r29_2 hk hin8 (List.mem_cons_of_mem _ (List.mem_append_left _ (List.mem_of_getElem? (i := 6) rfl))) dX11_goOnFrom_13 ?_
  refine g_callV (n := 1) hk (k330_X7_takeFrom l D zt q d I10247 A10247  hV10247) (SP.same _) (fun _ h => h) (gi_V (List.mem_cons_of_mem _ (List.mem_append_left _ (List.mem_of_getElem? (i := 7) rfl))) (List.mem_cons_of_mem _ (List.mem_append_left _ (List.mem_of_getElem? (i := 8) rfl))) (List.mem_cons_of_mem _ (List.mem_append_left _ (List.mem_of_getElem? (i := 9) rfl))) (List.mem_cons_of_mem _ (List.mem_append_left _ (List.mem_of_getElem? (i := 10) rfl))) (gi_sub (fun w h => (List.mem_cons_of_mem _ (List.mem_append_right _ (List.mem_append_right _ (List.mem_append_right _ (List.mem_append_right _ (List.mem_append_left _ h))))))) zg_k330_X7_takeFrom)) rfl rfl rfl (by decide +kernel) ⟨Nat.le_of_ble_eq_true rfl, Nat.le_of_ble_eq_true rfl⟩ 18 rfl rfl rfl rfl (Nat.le_of_ble_eq_true rfl) ⟨Nat.le_of_ble_eq_true rfl, Nat.le_of_ble_eq_true rfl⟩ dX11_goOnFrom_16 (fun v ty' w' hp hk' => ?_)
  obtain ⟨I10279, A10279, hI10279, hA10279, hV10279, rfl, rfl⟩ := hp
  show GW κ 2 0 0 (wX q d I10279 A10279) 19 [(0, .ref (q 0)), (1, .ref (q 29))] []
  refine g_aload_n hk dX11_goOnFrom_19 rfl ?_
  refine gX_r0_5 hk hin11 (List.mem_cons_of_mem _ (List.mem_append_left _ (List.mem_of_getElem? (i := 11) rfl))) dX11_goOnFrom_20 ?_
  refine g_callV (n := 0) hk (k175_X3_forget l D zt q d I10279 A10279  hV10279) (SP.same _) (fun _ h => h) (gi_V (List.mem_cons_of_mem _ (List.mem_append_left _ (List.mem_of_getElem? (i := 12) rfl))) (List.mem_cons_of_mem _ (List.mem_append_left _ (List.mem_of_getElem? (i := 13) rfl))) (List.mem_cons_of_mem _ (List.mem_append_left _ (List.mem_of_getElem? (i := 14) rfl))) (List.mem_cons_of_mem _ (List.mem_append_left _ (List.mem_of_getElem? (i := 15) rfl))) (gi_sub (fun w h => (List.mem_cons_of_mem _ (List.mem_append_right _ (List.mem_append_right _ (List.mem_append_right _ (List.mem_append_right _ (List.mem_append_right _ (List.mem_append_left _ h)))))))) zg_k175_X3_forget)) rfl rfl rfl (by decide +kernel) ⟨Nat.le_of_ble_eq_true rfl, Nat.le_of_ble_eq_true rfl⟩ 20 rfl rfl rfl rfl (Nat.le_of_ble_eq_true rfl) ⟨Nat.le_of_ble_eq_true rfl, Nat.le_of_ble_eq_true rfl⟩ dX11_goOnFrom_23 (fun v ty' w' hp hk' => ?_)
  obtain ⟨I10281, A10281, hI10281, hA10281, hV10281, rfl, rfl⟩ := hp
  show GW κ 2 0 0 (wX q d I10281 A10281) 26 [(0, .ref (q 0)), (1, .ref (q 29))] []
  exact g_vret hk hR ⟨I10281, A10281, (show Md [17, 18, 21] I I10281 from (Md.tr (Md.tr (Md.tr Md.rf hI10247 rfl) hI10279 rfl) hI10281 rfl)), (show Md [7, 10] A A10281 from (Md.tr (Md.tr (Md.tr Md.rf hA10247 rfl) hA10279 rfl) hA10281 rfl)), hV10281, rfl, rfl⟩ dX11_goOnFrom_26
def wo_k334_X8_valueAt : List Cond := [Cond.fieldLink RX8 22 "WarpDesk$Stand" "size" "I", Cond.fieldLink RX8 9 "WarpDesk$Stand" "places" "[I"]
def wz_k334_X8_valueAt : List Cond := .code yX8_valueAt cX8_valueAt 2 (some .int) :: (wo_k334_X8_valueAt ++ (wsX80 ++ ([] : List Cond)))
theorem zg_k334_X8_valueAt : ∀ w ∈ wz_k334_X8_valueAt, goodWord w = true := zg_cons rfl (zg_app (by decide +kernel) (zg_app zgU_wsX80 zg_nil))
theorem zi_k334_X8_valueAt : ∀ w ∈ wz_k334_X8_valueAt, w ∈ lw_tbl := zi_cons zw_776 (zi_app (zi_cons zw_195 (zi_cons zw_194 zi_nil)) (zi_app inX8 zi_nil))
set_option maxHeartbeats 4000000 in
set_option maxRecDepth 100000 in
theorem k334_X8_valueAt (l : Launch) (D : va_G) (zt : Nat × Nat × Nat × (Nat → Nat) × (Nat → Nat)) (q : Nat → Nat) (d : Nat → ClassId) (I : Nat → Int32) (A : Nat → Nat → Int32) (z1 : Int32) (hIv : IvX I A) : GM l D zt (tyX d) yX8_valueAt wz_k334_X8_valueAt ({ frames := 0, cells := 0, slots := 0, locals := 0 } : Room) [.ref (q 33), .int z1] (wX q d I A) (fun v _ w' => ∃ y0 : Int32, v = some (.int y0) ∧ w' = wX q d I A) 0 0 := by
  refine GM.of (cc := cX8_valueAt) (maxL := 2) (ret := (some .int)) (own := RX8) (lv := [(0, .ref (q 33)), (1, .int z1)]) (by decide) rfl rfl (Nat.le_of_ble_eq_true rfl) rfl (fun κ sz hk hR hN => ?_)
  have hin8 : ∀ w ∈ u_ws RX8 TX8 4, w ∈ wz_k334_X8_valueAt := fun w h => (List.mem_cons_of_mem _ (List.mem_append_right _ (List.mem_append_left _ h)))
  refine g_iload_n hk dX8_valueAt_0 rfl ?_
  have b10293l := Int32.le_toInt z1
  have b10293h := Int32.toInt_lt z1
  refine g_if_lt (tgt := 30) (a := z1.toInt) hk dX8_valueAt_1 (by decide) rfl (fun c10294 => ?_) (fun c10294 => ?_)
  · skip
    refine g_sipush (v := (-1000)) hk dX8_valueAt_30 (by decide) ?_
    exact g_iret hk hR rfl ⟨(-1000), rfl, rfl⟩ dX8_valueAt_33
  · skip
    refine g_iload_n hk dX8_valueAt_4 rfl ?_
    refine g_aload_n hk dX8_valueAt_5 rfl ?_
    refine gX_i26 (v := (I 26)) hk hin8 (List.mem_cons_of_mem _ (List.mem_append_left _ (List.mem_of_getElem? (i := 0) rfl))) dX8_valueAt_6 rfl ?_
    have b10295l := Int32.le_toInt (I 26)
    have b10295h := Int32.toInt_lt (I 26)
    refine g_icmp_ge (tgt := 30) (a := z1.toInt) (b := (I 26).toInt) hk dX8_valueAt_9 (by decide) rfl rfl (fun c10296 => ?_) (fun c10296 => ?_)
    · skip
      refine g_sipush (v := (-1000)) hk dX8_valueAt_30 (by decide) ?_
      exact g_iret hk hR rfl ⟨(-1000), rfl, rfl⟩ dX8_valueAt_33
    · skip
      refine g_iload_n hk dX8_valueAt_12 rfl ?_
      refine g_aload_n hk dX8_valueAt_13 rfl ?_
      refine gX_r33_0 hk hin8 (List.mem_cons_of_mem _ (List.mem_append_left _ (List.mem_of_getElem? (i := 1) rfl))) dX8_valueAt_14 ?_
      refine nX_19 hk dX8_valueAt_17 ?_
      refine g_icmp_ge (tgt := 30) (a := z1.toInt) (b := 160) hk dX8_valueAt_18 (by decide) rfl rfl (fun c10297 => ?_) (fun c10297 => ?_)
      · skip
        refine g_sipush (v := (-1000)) hk dX8_valueAt_30 (by decide) ?_
        exact g_iret hk hR rfl ⟨(-1000), rfl, rfl⟩ dX8_valueAt_33
      · skip
        refine g_aload_n hk dX8_valueAt_21 rfl ?_
        refine gX_r33_0 hk hin8 (List.mem_cons_of_mem _ (List.mem_append_left _ (List.mem_of_getElem? (i := 1) rfl))) dX8_valueAt_22 ?_
        refine g_iload_n hk dX8_valueAt_25 rfl ?_
        refine lX_19 (v := (A 19 z1.toNatClampNeg)) hk (vp_in_iff.mpr ⟨by omega, by omega⟩) rfl dX8_valueAt_26 ?_
        refine g_goto (tgt := 33) hk dX8_valueAt_27 (by decide) ?_
        have b10298l := Int32.le_toInt (A 19 z1.toNatClampNeg)
        have b10298h := Int32.toInt_lt (A 19 z1.toNatClampNeg)
        exact g_iret hk hR rfl ⟨(A 19 z1.toNatClampNeg), rfl, rfl⟩ dX8_valueAt_33
def wo_k333_X6_takeFrom : List Cond := [Cond.fieldLink RX6 15 "WarpDesk$Series" "first" "I", Cond.fieldLink RX6 19 "WarpDesk$Series" "size" "I", Cond.fieldLink RX6 22 "WarpDesk$Stand" "size" "I", Cond.methodLink RX6 25 yX8_valueAt, Cond.instanceMethod yX8_valueAt, Cond.selects RX8 yX8_valueAt yX8_valueAt, Cond.initialized RX8, Cond.methodLink RX6 29 yX6_append, Cond.instanceMethod yX6_append, Cond.selects RX6 yX6_append yX6_append, Cond.initialized RX6]
def wz_k333_X6_takeFrom : List Cond := .code yX6_takeFrom cX6_takeFrom 3 none :: (wo_k333_X6_takeFrom ++ (wsX60 ++ (wsX80 ++ (wz_k334_X8_valueAt ++ (wz_k172_X6_append ++ ([] : List Cond))))))
theorem zg_k333_X6_takeFrom : ∀ w ∈ wz_k333_X6_takeFrom, goodWord w = true := zg_cons rfl (zg_app (by decide +kernel) (zg_app zgU_wsX60 (zg_app zgU_wsX80 (zg_app zg_k334_X8_valueAt (zg_app zg_k172_X6_append zg_nil)))))
theorem zi_k333_X6_takeFrom : ∀ w ∈ wz_k333_X6_takeFrom, w ∈ lw_tbl := zi_cons zw_772 (zi_app (zi_cons zw_281 (zi_cons zw_282 (zi_cons zw_196 (zi_cons zw_773 (zi_cons zw_774 (zi_cons zw_775 (zi_cons zw_106 (zi_cons zw_777 (zi_cons zw_778 (zi_cons zw_779 (zi_cons zw_109 zi_nil))))))))))) (zi_app inX6 (zi_app inX8 (zi_app zi_k334_X8_valueAt (zi_app zi_k172_X6_append zi_nil)))))
set_option maxHeartbeats 4000000 in
set_option maxRecDepth 100000 in
theorem k333_X6_takeFrom (l : Launch) (D : va_G) (zt : Nat × Nat × Nat × (Nat → Nat) × (Nat → Nat)) (q : Nat → Nat) (d : Nat → ClassId) (I : Nat → Int32) (A : Nat → Nat → Int32) (hIv : IvX I A) : GM l D zt (tyX d) yX6_takeFrom wz_k333_X6_takeFrom ({ frames := 1, cells := 0, slots := 0, locals := 21 } : Room) [.ref (q 13), .ref (q 33)] (wX q d I A) (fun v _ w' => ∃ (I' : Nat → Int32) (A' : Nat → Nat → Int32), Md [17, 18] I I' ∧ Md [7] A A' ∧ IvX I' A' ∧ v = none ∧ w' = wX q d I' A') 0 0 := by
  refine GM.of (cc := cX6_takeFrom) (maxL := 3) (ret := none) (own := RX6) (lv := [(0, .ref (q 13)), (1, .ref (q 33))]) (by decide) rfl rfl (Nat.le_of_ble_eq_true rfl) rfl (fun κ sz hk hR hN => ?_)
  have hin6 : ∀ w ∈ u_ws RX6 TX6 3, w ∈ wz_k333_X6_takeFrom := fun w h => (List.mem_cons_of_mem _ (List.mem_append_right _ (List.mem_append_left _ h)))
  have hin8 : ∀ w ∈ u_ws RX8 TX8 4, w ∈ wz_k333_X6_takeFrom := fun w h => (List.mem_cons_of_mem _ (List.mem_append_right _ (List.mem_append_right _ (List.mem_append_left _ h))))
  refine g_aload_n hk dX6_takeFrom_0 rfl ?_
  refine g_iconst (v := 0) hk dX6_takeFrom_1 (by decide) ?_
  refine pX_i17 hk hin6 (List.mem_cons_of_mem _ (List.mem_append_left _ (List.mem_of_getElem? (i := 0) rfl))) dX6_takeFrom_2 ?_
  refine g_aload_n hk dX6_takeFrom_5 rfl ?_
  refine g_iconst (v := 0) hk dX6_takeFrom_6 (by decide) ?_
  refine pX_i18 hk hin6 (List.mem_cons_of_mem _ (List.mem_append_left _ (List.mem_of_getElem? (i := 1) rfl))) dX6_takeFrom_7 ?_
  refine g_iconst (v := 0) hk dX6_takeFrom_10 (by decide) ?_
  refine g_istore_n (lv' := [(2, .int 0), (0, .ref (q 13)), (1, .ref (q 33))]) hk dX6_takeFrom_11 (by decide) rfl ?_
  have lp10323 : ∀ (n10324 : Nat) (x10287 : Int32) (I10290 : Nat → Int32) (A10290 : Nat → Nat → Int32), (Md [17, 18] (upd (upd I 17 0) 18 0) I10290) → (Md [7] A A10290) → (IvX I10290 A10290) → (0 ≤ x10287.toInt) → ((I 26).toInt + 1 - x10287.toInt < (n10324 : Int)) → (0 < n10324) → GW κ 3 0 0 (wX q d I10290 A10290) 12 [(2, .int x10287), (0, .ref (q 13)), (1, .ref (q 33))] [] := by
    intro n10324
    induction n10324 with
    | zero =>
      intro x10287 I10290 A10290 hI10290 hA10290 hV10290 h10322 m10325 m10325z
      exact absurd m10325z (Nat.lt_irrefl 0)
    | succ n10324 ih10326 =>
      intro x10287 I10290 A10290 hI10290 hA10290 hV10290 h10322 m10325 m10325z
      refine g_iload_n hk dX6_takeFrom_12 rfl ?_
      refine g_aload_n hk dX6_takeFrom_13 rfl ?_
      refine gX_i26 (v := (I 26)) hk hin8 (List.mem_cons_of_mem _ (List.mem_append_left _ (List.mem_of_getElem? (i := 2) rfl))) dX6_takeFrom_14 (hI10290 26 rfl) ?_
      have b10327l := Int32.le_toInt x10287
      have b10327h := Int32.toInt_lt x10287
      have b10328l := Int32.le_toInt (I 26)
      have b10328h := Int32.toInt_lt (I 26)
      refine g_icmp_ge (tgt := 36) (a := x10287.toInt) (b := (I 26).toInt) hk dX6_takeFrom_17 (by decide) rfl rfl (fun c10329 => ?_) (fun c10329 => ?_)
      · skip
        exact g_vret hk hR ⟨I10290, A10290, (show Md [17, 18] I I10290 from (Md.tr (Md.up (Md.up Md.rf rfl) rfl) hI10290 rfl)), (show Md [7] A A10290 from (Md.tr Md.rf hA10290 rfl)), hV10290, rfl, rfl⟩ dX6_takeFrom_36
      · skip
        refine g_aload_n hk dX6_takeFrom_20 rfl ?_
        refine g_aload_n hk dX6_takeFrom_21 rfl ?_
        refine g_iload_n hk dX6_takeFrom_22 rfl ?_
        refine g_callV (n := 1) hk (k334_X8_valueAt l D zt q d I10290 A10290 x10287 hV10290) (SP.same _) (fun _ h => h) (gi_V (List.mem_cons_of_mem _ (List.mem_append_left _ (List.mem_of_getElem? (i := 3) rfl))) (List.mem_cons_of_mem _ (List.mem_append_left _ (List.mem_of_getElem? (i := 4) rfl))) (List.mem_cons_of_mem _ (List.mem_append_left _ (List.mem_of_getElem? (i := 5) rfl))) (List.mem_cons_of_mem _ (List.mem_append_left _ (List.mem_of_getElem? (i := 6) rfl))) (gi_sub (fun w h => (List.mem_cons_of_mem _ (List.mem_append_right _ (List.mem_append_right _ (List.mem_append_right _ (List.mem_append_left _ h)))))) zg_k334_X8_valueAt)) rfl rfl rfl (by decide +kernel) ⟨Nat.le_of_ble_eq_true rfl, Nat.le_of_ble_eq_true rfl⟩ 33 rfl rfl rfl rfl (Nat.le_of_ble_eq_true rfl) ⟨Nat.le_of_ble_eq_true rfl, Nat.le_of_ble_eq_true rfl⟩ dX6_takeFrom_23 (fun v ty' w' hp hk' => ?_)
        obtain ⟨y10330, rfl, rfl⟩ := hp
        show GW κ 3 0 0 (wX q d I10290 A10290) 26 [(2, .int x10287), (0, .ref (q 13)), (1, .ref (q 33))] [.int y10330, .ref (q 13)]
        refine g_callV (n := 1) hk (k172_X6_append l D zt q d I10290 A10290 y10330 hV10290) (SP.same _) (fun _ h => h) (gi_V (List.mem_cons_of_mem _ (List.mem_append_left _ (List.mem_of_getElem? (i := 7) rfl))) (List.mem_cons_of_mem _ (List.mem_append_left _ (List.mem_of_getElem? (i := 8) rfl))) (List.mem_cons_of_mem _ (List.mem_append_left _ (List.mem_of_getElem? (i := 9) rfl))) (List.mem_cons_of_mem _ (List.mem_append_left _ (List.mem_of_getElem? (i := 10) rfl))) (gi_sub (fun w h => (List.mem_cons_of_mem _ (List.mem_append_right _ (List.mem_append_right _ (List.mem_append_right _ (List.mem_append_right _ (List.mem_append_left _ h))))))) zg_k172_X6_append)) rfl rfl rfl (by decide +kernel) ⟨Nat.le_of_ble_eq_true rfl, Nat.le_of_ble_eq_true rfl⟩ 13 rfl rfl rfl rfl (Nat.le_of_ble_eq_true rfl) ⟨Nat.le_of_ble_eq_true rfl, Nat.le_of_ble_eq_true rfl⟩ dX6_takeFrom_26 (fun v ty' w' hp hk' => ?_)
        obtain ⟨I10334, A10334, hI10334, hA10334, hV10334, y10331, c10332, c10333, rfl, rfl⟩ := hp
        show GW κ 3 0 0 (wX q d I10334 A10334) 29 [(2, .int x10287), (0, .ref (q 13)), (1, .ref (q 33))] [.int y10331]
        refine g_pop hk dX6_takeFrom_29 rfl ?_
        obtain ⟨y10335, ey10335⟩ : ∃ y : Int32, y = x10287 + Int32.ofInt 1 := ⟨_, rfl⟩
        have hy10335 : y10335.toInt = x10287.toInt + 1 := i32_add ey10335 rfl (by decide) (by omega) (by omega)
        refine g_iinc (v := y10335) (lv' := [(2, .int y10335), (0, .ref (q 13)), (1, .ref (q 33))]) hk 0 dX6_takeFrom_30 rfl ey10335.symm (by decide) rfl ?_
        refine g_goto (tgt := 12) hk dX6_takeFrom_33 (by decide) ?_
        exact g_lv (List.forall_mem_cons.mpr ⟨List.mem_of_getElem? (i := 0) rfl, (List.forall_mem_cons.mpr ⟨List.mem_of_getElem? (i := 1) rfl, (List.forall_mem_cons.mpr ⟨List.mem_of_getElem? (i := 2) rfl, (fun _ h => absurd h List.not_mem_nil)⟩)⟩)⟩) (ih10326 y10335 I10334 A10334 (show Md [17, 18] (upd (upd I 17 0) 18 0) I10334 from Md.tr hI10290 (show Md [17, 18] I10290 I10334 from (Md.tr Md.rf hI10334 rfl)) rfl) (show Md [7] A A10334 from Md.tr hA10290 (show Md [7] A10290 A10334 from (Md.tr Md.rf hA10334 rfl)) rfl) hV10334 (by omega) (by omega) (by omega))
  have k10337 : (0 : Int32).toInt = 0 := rfl
  obtain ⟨n10336, n10336a, n10336b⟩ : ∃ n : Nat, (I 26).toInt + 1 - 0 < (n : Int) ∧ 0 < n := ⟨(((I 26).toInt + 1 - 0 : Int)).toNat + 1, by omega, by omega⟩
  exact lp10323 n10336 0 (upd (upd I 17 0) 18 0) A Md.rf Md.rf ⟨(IvX_f0 (I := I) (A := A) hIv), (show 0 ≤ (0 : Int32).toInt ∧ (0 : Int32).toInt ≤ 160 from ⟨by decide, by decide⟩), (IvX_f30 (I := I) (A := A) hIv), (IvX_f31 (I := I) (A := A) hIv), (IvX_a4 (I := I) (A := A) hIv), (IvX_a9 (I := I) (A := A) hIv), trivial⟩ (by omega) n10336a n10336b
def wo_k336_X7_valueOf : List Cond := [Cond.fieldLink RX7 20 "WarpDesk$Settings" "values" "[I"]
def wz_k336_X7_valueOf : List Cond := .code yX7_valueOf cX7_valueOf 2 (some .int) :: (wo_k336_X7_valueOf ++ (wsX70 ++ ([] : List Cond)))
theorem zg_k336_X7_valueOf : ∀ w ∈ wz_k336_X7_valueOf, goodWord w = true := zg_cons rfl (zg_app (by decide +kernel) (zg_app zgU_wsX70 zg_nil))
theorem zi_k336_X7_valueOf : ∀ w ∈ wz_k336_X7_valueOf, w ∈ lw_tbl := zi_cons zw_788 (zi_app (zi_cons zw_190 zi_nil) (zi_app inX7 zi_nil))
set_option maxHeartbeats 4000000 in
set_option maxRecDepth 100000 in
theorem k336_X7_valueOf (l : Launch) (D : va_G) (zt : Nat × Nat × Nat × (Nat → Nat) × (Nat → Nat)) (q : Nat → Nat) (d : Nat → ClassId) (I : Nat → Int32) (A : Nat → Nat → Int32) (z1 : Int32) (hIv : IvX I A) : GM l D zt (tyX d) yX7_valueOf wz_k336_X7_valueOf ({ frames := 0, cells := 0, slots := 0, locals := 0 } : Room) [.ref (q 35), .int z1] (wX q d I A) (fun v _ w' => ∃ y0 : Int32, v = some (.int y0) ∧ w' = wX q d I A) 0 0 := by
  refine GM.of (cc := cX7_valueOf) (maxL := 2) (ret := (some .int)) (own := RX7) (lv := [(0, .ref (q 35)), (1, .int z1)]) (by decide) rfl rfl (Nat.le_of_ble_eq_true rfl) rfl (fun κ sz hk hR hN => ?_)
  have hin7 : ∀ w ∈ u_ws RX7 TX7 1, w ∈ wz_k336_X7_valueOf := fun w h => (List.mem_cons_of_mem _ (List.mem_append_right _ (List.mem_append_left _ h)))
  refine g_iload_n hk dX7_valueOf_0 rfl ?_
  have b10344l := Int32.le_toInt z1
  have b10344h := Int32.toInt_lt z1
  refine g_if_lt (tgt := 22) (a := z1.toInt) hk dX7_valueOf_1 (by decide) rfl (fun c10345 => ?_) (fun c10345 => ?_)
  · skip
    refine g_iconst (v := (-1)) hk dX7_valueOf_22 (by decide) ?_
    exact g_iret hk hR rfl ⟨(-1), rfl, rfl⟩ dX7_valueOf_23
  · skip
    refine g_iload_n hk dX7_valueOf_4 rfl ?_
    refine g_aload_n hk dX7_valueOf_5 rfl ?_
    refine gX_r35_0 hk hin7 (List.mem_cons_of_mem _ (List.mem_append_left _ (List.mem_of_getElem? (i := 0) rfl))) dX7_valueOf_6 ?_
    refine nX_20 hk dX7_valueOf_9 ?_
    refine g_icmp_ge (tgt := 22) (a := z1.toInt) (b := 4) hk dX7_valueOf_10 (by decide) rfl rfl (fun c10346 => ?_) (fun c10346 => ?_)
    · skip
      refine g_iconst (v := (-1)) hk dX7_valueOf_22 (by decide) ?_
      exact g_iret hk hR rfl ⟨(-1), rfl, rfl⟩ dX7_valueOf_23
    · skip
      refine g_aload_n hk dX7_valueOf_13 rfl ?_
      refine gX_r35_0 hk hin7 (List.mem_cons_of_mem _ (List.mem_append_left _ (List.mem_of_getElem? (i := 0) rfl))) dX7_valueOf_14 ?_
      refine g_iload_n hk dX7_valueOf_17 rfl ?_
      refine lX_20 (v := (A 20 z1.toNatClampNeg)) hk (vp_in_iff.mpr ⟨by omega, by omega⟩) rfl dX7_valueOf_18 ?_
      refine g_goto (tgt := 23) hk dX7_valueOf_19 (by decide) ?_
      have b10347l := Int32.le_toInt (A 20 z1.toNatClampNeg)
      have b10347h := Int32.toInt_lt (A 20 z1.toNatClampNeg)
      exact g_iret hk hR rfl ⟨(A 20 z1.toNatClampNeg), rfl, rfl⟩ dX7_valueOf_23
def wo_k335_X7_takeFrom : List Cond := [Cond.fieldLink RX7 20 "WarpDesk$Settings" "values" "[I", Cond.methodLink RX7 33 yX7_valueOf, Cond.instanceMethod yX7_valueOf, Cond.selects RX7 yX7_valueOf yX7_valueOf, Cond.initialized RX7]
def wz_k335_X7_takeFrom : List Cond := .code yX7_takeFrom cX7_takeFrom 3 none :: (wo_k335_X7_takeFrom ++ (wsX70 ++ (wz_k336_X7_valueOf ++ ([] : List Cond))))
theorem zg_k335_X7_takeFrom : ∀ w ∈ wz_k335_X7_takeFrom, goodWord w = true := zg_cons rfl (zg_app (by decide +kernel) (zg_app zgU_wsX70 (zg_app zg_k336_X7_valueOf zg_nil)))
theorem zi_k335_X7_takeFrom : ∀ w ∈ wz_k335_X7_takeFrom, w ∈ lw_tbl := zi_cons zw_784 (zi_app (zi_cons zw_190 (zi_cons zw_785 (zi_cons zw_786 (zi_cons zw_787 (zi_cons zw_107 zi_nil))))) (zi_app inX7 (zi_app zi_k336_X7_valueOf zi_nil)))
set_option maxHeartbeats 4000000 in
set_option maxRecDepth 100000 in
theorem k335_X7_takeFrom (l : Launch) (D : va_G) (zt : Nat × Nat × Nat × (Nat → Nat) × (Nat → Nat)) (q : Nat → Nat) (d : Nat → ClassId) (I : Nat → Int32) (A : Nat → Nat → Int32) (hIv : IvX I A) : GM l D zt (tyX d) yX7_takeFrom wz_k335_X7_takeFrom ({ frames := 1, cells := 0, slots := 0, locals := 21 } : Room) [.ref (q 18), .ref (q 35)] (wX q d I A) (fun v _ w' => ∃ (I' : Nat → Int32) (A' : Nat → Nat → Int32), Md [] I I' ∧ Md [10] A A' ∧ IvX I' A' ∧ v = none ∧ w' = wX q d I' A') 0 0 := by
  refine GM.of (cc := cX7_takeFrom) (maxL := 3) (ret := none) (own := RX7) (lv := [(0, .ref (q 18)), (1, .ref (q 35))]) (by decide) rfl rfl (Nat.le_of_ble_eq_true rfl) rfl (fun κ sz hk hR hN => ?_)
  have hin7 : ∀ w ∈ u_ws RX7 TX7 1, w ∈ wz_k335_X7_takeFrom := fun w h => (List.mem_cons_of_mem _ (List.mem_append_right _ (List.mem_append_left _ h)))
  refine g_iconst (v := 0) hk dX7_takeFrom_0 (by decide) ?_
  refine g_istore_n (lv' := [(2, .int 0), (0, .ref (q 18)), (1, .ref (q 35))]) hk dX7_takeFrom_1 (by decide) rfl ?_
  have lp10361 : ∀ (n10362 : Nat) (x10340 : Int32) (I10343 : Nat → Int32) (A10343 : Nat → Nat → Int32), (Md [] I I10343) → (Md [10] A A10343) → (IvX I10343 A10343) → (0 ≤ x10340.toInt) → (x10340.toInt ≤ 4) → (5 - x10340.toInt < (n10362 : Int)) → (0 < n10362) → GW κ 3 0 0 (wX q d I10343 A10343) 2 [(2, .int x10340), (0, .ref (q 18)), (1, .ref (q 35))] [] := by
    intro n10362
    induction n10362 with
    | zero =>
      intro x10340 I10343 A10343 hI10343 hA10343 hV10343 h10359 h10360 m10363 m10363z
      exact absurd m10363z (Nat.lt_irrefl 0)
    | succ n10362 ih10364 =>
      intro x10340 I10343 A10343 hI10343 hA10343 hV10343 h10359 h10360 m10363 m10363z
      refine g_iload_n hk dX7_takeFrom_2 rfl ?_
      refine g_aload_n hk dX7_takeFrom_3 rfl ?_
      refine gX_r18_0 hk hin7 (List.mem_cons_of_mem _ (List.mem_append_left _ (List.mem_of_getElem? (i := 0) rfl))) dX7_takeFrom_4 ?_
      refine nX_10 hk dX7_takeFrom_7 ?_
      refine g_icmp_ge (tgt := 28) (a := x10340.toInt) (b := 4) hk dX7_takeFrom_8 (by decide) rfl rfl (fun c10365 => ?_) (fun c10365 => ?_)
      · skip
        exact g_vret hk hR ⟨I10343, A10343, (show Md [] I I10343 from (Md.tr Md.rf hI10343 rfl)), (show Md [10] A A10343 from (Md.tr Md.rf hA10343 rfl)), hV10343, rfl, rfl⟩ dX7_takeFrom_28
      · skip
        refine g_aload_n hk dX7_takeFrom_11 rfl ?_
        refine gX_r18_0 hk hin7 (List.mem_cons_of_mem _ (List.mem_append_left _ (List.mem_of_getElem? (i := 0) rfl))) dX7_takeFrom_12 ?_
        refine g_iload_n hk dX7_takeFrom_15 rfl ?_
        refine g_aload_n hk dX7_takeFrom_16 rfl ?_
        refine g_iload_n hk dX7_takeFrom_17 rfl ?_
        refine g_callV (n := 1) hk (k336_X7_valueOf l D zt q d I10343 A10343 x10340 hV10343) (SP.same _) (fun _ h => h) (gi_V (List.mem_cons_of_mem _ (List.mem_append_left _ (List.mem_of_getElem? (i := 1) rfl))) (List.mem_cons_of_mem _ (List.mem_append_left _ (List.mem_of_getElem? (i := 2) rfl))) (List.mem_cons_of_mem _ (List.mem_append_left _ (List.mem_of_getElem? (i := 3) rfl))) (List.mem_cons_of_mem _ (List.mem_append_left _ (List.mem_of_getElem? (i := 4) rfl))) (gi_sub (fun w h => (List.mem_cons_of_mem _ (List.mem_append_right _ (List.mem_append_right _ (List.mem_append_left _ h))))) zg_k336_X7_valueOf)) rfl rfl rfl (by decide +kernel) ⟨Nat.le_of_ble_eq_true rfl, Nat.le_of_ble_eq_true rfl⟩ 35 rfl rfl rfl rfl (Nat.le_of_ble_eq_true rfl) ⟨Nat.le_of_ble_eq_true rfl, Nat.le_of_ble_eq_true rfl⟩ dX7_takeFrom_18 (fun v ty' w' hp hk' => ?_)
        obtain ⟨y10366, rfl, rfl⟩ := hp
        show GW κ 3 0 0 (wX q d I10343 A10343) 21 [(2, .int x10340), (0, .ref (q 18)), (1, .ref (q 35))] [.int y10366, .int x10340, .ref (q 19)]
        refine sX_10 (j := x10340.toNatClampNeg) hk (vp_in_iff.mpr ⟨by omega, by omega⟩) rfl dX7_takeFrom_21 ?_
        obtain ⟨y10367, ey10367⟩ : ∃ y : Int32, y = x10340 + Int32.ofInt 1 := ⟨_, rfl⟩
        have hy10367 : y10367.toInt = x10340.toInt + 1 := i32_add ey10367 rfl (by decide) (by omega) (by omega)
        refine g_iinc (v := y10367) (lv' := [(2, .int y10367), (0, .ref (q 18)), (1, .ref (q 35))]) hk 0 dX7_takeFrom_22 rfl ey10367.symm (by decide) rfl ?_
        refine g_goto (tgt := 2) hk dX7_takeFrom_25 (by decide) ?_
        exact g_lv (List.forall_mem_cons.mpr ⟨List.mem_of_getElem? (i := 0) rfl, (List.forall_mem_cons.mpr ⟨List.mem_of_getElem? (i := 1) rfl, (List.forall_mem_cons.mpr ⟨List.mem_of_getElem? (i := 2) rfl, (fun _ h => absurd h List.not_mem_nil)⟩)⟩)⟩) (ih10364 y10367 I10343 (up3 A10343 10 (x10340.toNatClampNeg) y10366) (show Md [] I I10343 from Md.tr hI10343 (show Md [] I10343 I10343 from Md.rf) rfl) (show Md [10] A (up3 A10343 10 (x10340.toNatClampNeg) y10366) from Md.tr hA10343 (show Md [10] A10343 (up3 A10343 10 (x10340.toNatClampNeg) y10366) from (Md.up3 Md.rf rfl)) rfl) ⟨(IvX_f0 (I := I10343) (A := A10343) hV10343), (IvX_f18 (I := I10343) (A := A10343) hV10343), (IvX_f30 (I := I10343) (A := A10343) hV10343), (IvX_f31 (I := I10343) (A := A10343) hV10343), (IvX_a4 (I := I10343) (A := A10343) hV10343), (IvX_a9 (I := I10343) (A := A10343) hV10343), trivial⟩ (by omega) (by omega) (by omega) (by omega))
  have k10369 : (0 : Int32).toInt = 0 := rfl
  obtain ⟨n10368, n10368a, n10368b⟩ : ∃ n : Nat, 5 - 0 < (n : Int) ∧ 0 < n := ⟨((5 - 0 : Int)).toNat + 1, by omega, by omega⟩
  exact lp10361 n10368 0 I A Md.rf Md.rf hIv (by omega) (by omega) n10368a n10368b
def wo_k332_X11_goOnFrom : List Cond := [Cond.fieldLink RX11 28 "WarpDesk" "series" "LWarpDesk$Series;", Cond.methodLink RX11 369 yX6_takeFrom, Cond.instanceMethod yX6_takeFrom, Cond.selects RX6 yX6_takeFrom yX6_takeFrom, Cond.initialized RX6, Cond.fieldLink RX11 42 "WarpDesk" "settings" "LWarpDesk$Settings;", Cond.fieldLink RX11 365 "WarpDesk$Stand" "settings" "LWarpDesk$Settings;", Cond.methodLink RX11 366 yX7_takeFrom, Cond.instanceMethod yX7_takeFrom, Cond.selects RX7 yX7_takeFrom yX7_takeFrom, Cond.initialized RX7, Cond.fieldLink RX11 49 "WarpDesk" "past" "LWarpDesk$Past;", Cond.methodLink RX11 371 yX3_forget, Cond.instanceMethod yX3_forget, Cond.selects RX3 yX3_forget yX3_forget, Cond.initialized RX3]
def wz_k332_X11_goOnFrom : List Cond := .code yX11_goOnFrom cX11_goOnFrom 2 none :: (wo_k332_X11_goOnFrom ++ (wsX80 ++ (wsX110 ++ (wz_k333_X6_takeFrom ++ (wz_k335_X7_takeFrom ++ (wz_k175_X3_forget ++ ([] : List Cond)))))))
theorem zg_k332_X11_goOnFrom : ∀ w ∈ wz_k332_X11_goOnFrom, goodWord w = true := zg_cons rfl (zg_app (by decide +kernel) (zg_app zgU_wsX80 (zg_app zgU_wsX110 (zg_app zg_k333_X6_takeFrom (zg_app zg_k335_X7_takeFrom (zg_app zg_k175_X3_forget zg_nil))))))
theorem zi_k332_X11_goOnFrom : ∀ w ∈ wz_k332_X11_goOnFrom, w ∈ lw_tbl := zi_cons zw_768 (zi_app (zi_cons zw_489 (zi_cons zw_769 (zi_cons zw_770 (zi_cons zw_771 (zi_cons zw_109 (zi_cons zw_491 (zi_cons zw_200 (zi_cons zw_781 (zi_cons zw_782 (zi_cons zw_783 (zi_cons zw_107 (zi_cons zw_492 (zi_cons zw_789 (zi_cons zw_790 (zi_cons zw_791 (zi_cons zw_110 zi_nil)))))))))))))))) (zi_app inX8 (zi_app inX11 (zi_app zi_k333_X6_takeFrom (zi_app zi_k335_X7_takeFrom (zi_app zi_k175_X3_forget zi_nil))))))
set_option maxHeartbeats 4000000 in
set_option maxRecDepth 100000 in
theorem k332_X11_goOnFrom (l : Launch) (D : va_G) (zt : Nat × Nat × Nat × (Nat → Nat) × (Nat → Nat)) (q : Nat → Nat) (d : Nat → ClassId) (I : Nat → Int32) (A : Nat → Nat → Int32) (hIv : IvX I A) : GM l D zt (tyX d) yX11_goOnFrom wz_k332_X11_goOnFrom ({ frames := 2, cells := 0, slots := 0, locals := 43 } : Room) [.ref (q 0), .ref (q 33)] (wX q d I A) (fun v _ w' => ∃ (I' : Nat → Int32) (A' : Nat → Nat → Int32), Md [17, 18, 21] I I' ∧ Md [7, 10] A A' ∧ IvX I' A' ∧ v = none ∧ w' = wX q d I' A') 0 0 := by
  refine GM.of (cc := cX11_goOnFrom) (maxL := 2) (ret := none) (own := RX11) (lv := [(0, .ref (q 0)), (1, .ref (q 33))]) (by decide) rfl rfl (Nat.le_of_ble_eq_true rfl) rfl (fun κ sz hk hR hN => ?_)
  have hin8 : ∀ w ∈ u_ws RX8 TX8 4, w ∈ wz_k332_X11_goOnFrom := fun w h => (List.mem_cons_of_mem _ (List.mem_append_right _ (List.mem_append_left _ h)))
  have hin11 : ∀ w ∈ u_ws RX11 TX11 10, w ∈ wz_k332_X11_goOnFrom := fun w h => (List.mem_cons_of_mem _ (List.mem_append_right _ (List.mem_append_right _ (List.mem_append_left _ h))))
  refine g_aload_n hk dX11_goOnFrom_0 rfl ?_
  refine gX_r0_2 hk hin11 (List.mem_cons_of_mem _ (List.mem_append_left _ (List.mem_of_getElem? (i := 0) rfl))) dX11_goOnFrom_1 ?_
  refine g_aload_n hk dX11_goOnFrom_4 rfl ?_
  refine g_callV (n := 1) hk (k333_X6_takeFrom l D zt q d I A  hIv) (SP.same _) (fun _ h => h) (gi_V (List.mem_cons_of_mem _ (List.mem_append_left _ (List.mem_of_getElem? (i := 1) rfl))) (List.mem_cons_of_mem _ (List.mem_append_left _ (List.mem_of_getElem? (i := 2) rfl))) (List.mem_cons_of_mem _ (List.mem_append_left _ (List.mem_of_getElem? (i := 3) rfl))) (List.mem_cons_of_mem _ (List.mem_append_left _ (List.mem_of_getElem? (i := 4) rfl))) (gi_sub (fun w h => (List.mem_cons_of_mem _ (List.mem_append_right _ (List.mem_append_right _ (List.mem_append_right _ (List.mem_append_left _ h)))))) zg_k333_X6_takeFrom)) rfl rfl rfl (by decide +kernel) ⟨Nat.le_of_ble_eq_true rfl, Nat.le_of_ble_eq_true rfl⟩ 13 rfl rfl rfl rfl (Nat.le_of_ble_eq_true rfl) ⟨Nat.le_of_ble_eq_true rfl, Nat.le_of_ble_eq_true rfl⟩ dX11_goOnFrom_5 (fun v ty' w' hp hk' => ?_)
  obtain ⟨I10339, A10339, hI10339, hA10339, hV10339, rfl, rfl⟩ := hp
  show GW κ 2 0 0 (wX q d I10339 A10339) 8 [(0, .ref (q 0)), (1, .ref (q 33))] []
  refine g_aload_n hk dX11_goOnFrom_8 rfl ?_
  refine gX_r0_4 hk hin11 (List.mem_cons_of_mem _ (List.mem_append_left _ (List.mem_of_getElem? (i := 5) rfl))) dX11_goOnFrom_9 ?_
  refine g_aload_n hk dX11_goOnFrom_12 rfl ?_
  refine gX_r33_2 hk hin8 (List.mem_cons_of_mem _ (List.mem_append_left _ (List.mem_of_getElem? (i := 6) rfl))) dX11_goOnFrom_13 ?_
  refine g_callV (n := 1) hk (k335_X7_takeFrom l D zt q d I10339 A10339  hV10339) (SP.same _) (fun _ h => h) (gi_V (List.mem_cons_of_mem _ (List.mem_append_left _ (List.mem_of_getElem? (i := 7) rfl))) (List.mem_cons_of_mem _ (List.mem_append_left _ (List.mem_of_getElem? (i := 8) rfl))) (List.mem_cons_of_mem _ (List.mem_append_left _ (List.mem_of_getElem? (i := 9) rfl))) (List.mem_cons_of_mem _ (List.mem_append_left _ (List.mem_of_getElem? (i := 10) rfl))) (gi_sub (fun w h => (List.mem_cons_of_mem _ (List.mem_append_right _ (List.mem_append_right _ (List.mem_append_right _ (List.mem_append_right _ (List.mem_append_left _ h))))))) zg_k335_X7_takeFrom)) rfl rfl rfl (by decide +kernel) ⟨Nat.le_of_ble_eq_true rfl, Nat.le_of_ble_eq_true rfl⟩ 18 rfl rfl rfl rfl (Nat.le_of_ble_eq_true rfl) ⟨Nat.le_of_ble_eq_true rfl, Nat.le_of_ble_eq_true rfl⟩ dX11_goOnFrom_16 (fun v ty' w' hp hk' => ?_)
  obtain ⟨I10371, A10371, hI10371, hA10371, hV10371, rfl, rfl⟩ := hp
  show GW κ 2 0 0 (wX q d I10371 A10371) 19 [(0, .ref (q 0)), (1, .ref (q 33))] []
  refine g_aload_n hk dX11_goOnFrom_19 rfl ?_
  refine gX_r0_5 hk hin11 (List.mem_cons_of_mem _ (List.mem_append_left _ (List.mem_of_getElem? (i := 11) rfl))) dX11_goOnFrom_20 ?_
  refine g_callV (n := 0) hk (k175_X3_forget l D zt q d I10371 A10371  hV10371) (SP.same _) (fun _ h => h) (gi_V (List.mem_cons_of_mem _ (List.mem_append_left _ (List.mem_of_getElem? (i := 12) rfl))) (List.mem_cons_of_mem _ (List.mem_append_left _ (List.mem_of_getElem? (i := 13) rfl))) (List.mem_cons_of_mem _ (List.mem_append_left _ (List.mem_of_getElem? (i := 14) rfl))) (List.mem_cons_of_mem _ (List.mem_append_left _ (List.mem_of_getElem? (i := 15) rfl))) (gi_sub (fun w h => (List.mem_cons_of_mem _ (List.mem_append_right _ (List.mem_append_right _ (List.mem_append_right _ (List.mem_append_right _ (List.mem_append_right _ (List.mem_append_left _ h)))))))) zg_k175_X3_forget)) rfl rfl rfl (by decide +kernel) ⟨Nat.le_of_ble_eq_true rfl, Nat.le_of_ble_eq_true rfl⟩ 20 rfl rfl rfl rfl (Nat.le_of_ble_eq_true rfl) ⟨Nat.le_of_ble_eq_true rfl, Nat.le_of_ble_eq_true rfl⟩ dX11_goOnFrom_23 (fun v ty' w' hp hk' => ?_)
  obtain ⟨I10373, A10373, hI10373, hA10373, hV10373, rfl, rfl⟩ := hp
  show GW κ 2 0 0 (wX q d I10373 A10373) 26 [(0, .ref (q 0)), (1, .ref (q 33))] []
  exact g_vret hk hR ⟨I10373, A10373, (show Md [17, 18, 21] I I10373 from (Md.tr (Md.tr (Md.tr Md.rf hI10339 rfl) hI10371 rfl) hI10373 rfl)), (show Md [7, 10] A A10373 from (Md.tr (Md.tr (Md.tr Md.rf hA10339 rfl) hA10371 rfl) hA10373 rfl)), hV10373, rfl, rfl⟩ dX11_goOnFrom_26
def wo_k321_X11_restore : List Cond := [Cond.fieldLink RX11 56 "WarpDesk" "slots" "[LWarpDesk$Stand;", Cond.fieldLink RX11 110 "WarpDesk$Stand" "held" "Z", Cond.methodLink RX11 106 yX11_goOnFrom, Cond.instanceMethod yX11_goOnFrom, Cond.selects RX11 yX11_goOnFrom yX11_goOnFrom, Cond.initialized RX11]
def wz_k321_X11_restore : List Cond := .code yX11_restore cX11_restore 2 (some .boolean) :: (wo_k321_X11_restore ++ (wsX80 ++ (wsX110 ++ (wz_k322_X11_goOnFrom ++ (wz_k327_X11_goOnFrom ++ (wz_k332_X11_goOnFrom ++ ([] : List Cond)))))))
theorem zg_k321_X11_restore : ∀ w ∈ wz_k321_X11_restore, goodWord w = true := zg_cons rfl (zg_app (by decide +kernel) (zg_app zgU_wsX80 (zg_app zgU_wsX110 (zg_app zg_k322_X11_goOnFrom (zg_app zg_k327_X11_goOnFrom (zg_app zg_k332_X11_goOnFrom zg_nil))))))
theorem zi_k321_X11_restore : ∀ w ∈ wz_k321_X11_restore, w ∈ lw_tbl := zi_cons zw_1338 (zi_app (zi_cons zw_493 (zi_cons zw_201 (zi_cons zw_765 (zi_cons zw_767 (zi_cons zw_22 (zi_cons zw_103 zi_nil)))))) (zi_app inX8 (zi_app inX11 (zi_app zi_k322_X11_goOnFrom (zi_app zi_k327_X11_goOnFrom (zi_app zi_k332_X11_goOnFrom zi_nil))))))
set_option maxHeartbeats 4000000 in
set_option maxRecDepth 100000 in
theorem k321_X11_restore (l : Launch) (D : va_G) (zt : Nat × Nat × Nat × (Nat → Nat) × (Nat → Nat)) (q : Nat → Nat) (d : Nat → ClassId) (I : Nat → Int32) (A : Nat → Nat → Int32) (z1 : Int32) (hIv : IvX I A) : GM l D zt (tyX d) yX11_restore wz_k321_X11_restore ({ frames := 3, cells := 0, slots := 0, locals := 64 } : Room) [.ref (q 0), .int z1] (wX q d I A) (fun v _ w' => ∃ (I' : Nat → Int32) (A' : Nat → Nat → Int32), Md [17, 18, 21] I I' ∧ Md [7, 10] A A' ∧ IvX I' A' ∧ ∃ y0 : Int32, (0 ≤ y0.toInt) ∧ (y0.toInt ≤ 1) ∧ v = some (.int y0) ∧ w' = wX q d I' A') 0 0 := by
  refine GM.of (cc := cX11_restore) (maxL := 2) (ret := (some .boolean)) (own := RX11) (lv := [(0, .ref (q 0)), (1, .int z1)]) (by decide) rfl rfl (Nat.le_of_ble_eq_true rfl) rfl (fun κ sz hk hR hN => ?_)
  have hin8 : ∀ w ∈ u_ws RX8 TX8 4, w ∈ wz_k321_X11_restore := fun w h => (List.mem_cons_of_mem _ (List.mem_append_right _ (List.mem_append_left _ h)))
  have hin11 : ∀ w ∈ u_ws RX11 TX11 10, w ∈ wz_k321_X11_restore := fun w h => (List.mem_cons_of_mem _ (List.mem_append_right _ (List.mem_append_right _ (List.mem_append_left _ h))))
  refine g_iload_n hk dX11_restore_0 rfl ?_
  have b10097l := Int32.le_toInt z1
  have b10097h := Int32.toInt_lt z1
  refine g_if_lt (tgt := 25) (a := z1.toInt) hk dX11_restore_1 (by decide) rfl (fun c10098 => ?_) (fun c10098 => ?_)
  · skip
    refine g_iconst (v := 0) hk dX11_restore_25 (by decide) ?_
    exact g_iret hk hR rfl ⟨I, A, (show Md [17, 18, 21] I I from Md.rf), (show Md [7, 10] A A from Md.rf), hIv, 0, (by decide), (by decide), rfl, rfl⟩ dX11_restore_26
  · skip
    refine g_iload_n hk dX11_restore_4 rfl ?_
    refine g_aload_n hk dX11_restore_5 rfl ?_
    refine gX_r0_6 hk hin11 (List.mem_cons_of_mem _ (List.mem_append_left _ (List.mem_of_getElem? (i := 0) rfl))) dX11_restore_6 ?_
    refine nX_14 hk dX11_restore_9 ?_
    refine g_icmp_ge (tgt := 25) (a := z1.toInt) (b := 3) hk dX11_restore_10 (by decide) rfl rfl (fun c10099 => ?_) (fun c10099 => ?_)
    · skip
      refine g_iconst (v := 0) hk dX11_restore_25 (by decide) ?_
      exact g_iret hk hR rfl ⟨I, A, (show Md [17, 18, 21] I I from Md.rf), (show Md [7, 10] A A from Md.rf), hIv, 0, (by decide), (by decide), rfl, rfl⟩ dX11_restore_26
    · skip
      refine g_aload_n hk dX11_restore_13 rfl ?_
      refine gX_r0_6 hk hin11 (List.mem_cons_of_mem _ (List.mem_append_left _ (List.mem_of_getElem? (i := 0) rfl))) dX11_restore_14 ?_
      refine g_iload_n hk dX11_restore_17 rfl ?_
      by_cases c10100 : z1.toInt = 0
      · have ec10100 : z1 = 0 := Int32.toInt_inj.mp c10100
        rw [ec10100]
        show GW κ 2 0 0 (wX q d I A) 18 [(0, .ref (q 0)), (1, .int 0)] [.int 0, .ref (q 24)]
        refine lX_14 hk (vp_in_iff.mpr ⟨by decide, by decide⟩) rfl dX11_restore_18 ?_
        refine gX_i23 (v := (I 23)) hk hin8 (List.mem_cons_of_mem _ (List.mem_append_left _ (List.mem_of_getElem? (i := 1) rfl))) dX11_restore_19 rfl ?_
        have b10101l := Int32.le_toInt (I 23)
        have b10101h := Int32.toInt_lt (I 23)
        refine g_if_ne (tgt := 27) (a := (I 23).toInt) hk dX11_restore_22 (by decide) rfl (fun c10102 => ?_) (fun c10102 => ?_)
        · skip
          refine g_aload_n hk dX11_restore_27 rfl ?_
          refine g_aload_n hk dX11_restore_28 rfl ?_
          refine gX_r0_6 hk hin11 (List.mem_cons_of_mem _ (List.mem_append_left _ (List.mem_of_getElem? (i := 0) rfl))) dX11_restore_29 ?_
          refine g_iload_n hk dX11_restore_32 rfl ?_
          refine lX_14 hk (vp_in_iff.mpr ⟨by decide, by decide⟩) rfl dX11_restore_33 ?_
          refine g_callV (n := 1) hk (k322_X11_goOnFrom l D zt q d I A  hIv) (SP.same _) (fun _ h => h) (gi_V (List.mem_cons_of_mem _ (List.mem_append_left _ (List.mem_of_getElem? (i := 2) rfl))) (List.mem_cons_of_mem _ (List.mem_append_left _ (List.mem_of_getElem? (i := 3) rfl))) (List.mem_cons_of_mem _ (List.mem_append_left _ (List.mem_of_getElem? (i := 4) rfl))) (List.mem_cons_of_mem _ (List.mem_append_left _ (List.mem_of_getElem? (i := 5) rfl))) (gi_sub (fun w h => (List.mem_cons_of_mem _ (List.mem_append_right _ (List.mem_append_right _ (List.mem_append_right _ (List.mem_append_left _ h)))))) zg_k322_X11_goOnFrom)) rfl rfl rfl (by decide +kernel) ⟨Nat.le_of_ble_eq_true rfl, Nat.le_of_ble_eq_true rfl⟩ 0 rfl rfl rfl rfl (Nat.le_of_ble_eq_true rfl) ⟨Nat.le_of_ble_eq_true rfl, Nat.le_of_ble_eq_true rfl⟩ dX11_restore_34 (fun v ty' w' hp hk' => ?_)
          obtain ⟨I10191, A10191, hI10191, hA10191, hV10191, rfl, rfl⟩ := hp
          show GW κ 2 0 0 (wX q d I10191 A10191) 37 [(0, .ref (q 0)), (1, .int 0)] []
          refine g_iconst (v := 1) hk dX11_restore_37 (by decide) ?_
          exact g_iret hk hR rfl ⟨I10191, A10191, (show Md [17, 18, 21] I I10191 from (Md.tr Md.rf hI10191 rfl)), (show Md [7, 10] A A10191 from (Md.tr Md.rf hA10191 rfl)), hV10191, 1, (by decide), (by decide), rfl, rfl⟩ dX11_restore_38
        · skip
          refine g_iconst (v := 0) hk dX11_restore_25 (by decide) ?_
          exact g_iret hk hR rfl ⟨I, A, (show Md [17, 18, 21] I I from Md.rf), (show Md [7, 10] A A from Md.rf), hIv, 0, (by decide), (by decide), rfl, rfl⟩ dX11_restore_26
      by_cases c10192 : z1.toInt = 1
      · have ec10192 : z1 = 1 := Int32.toInt_inj.mp c10192
        rw [ec10192]
        show GW κ 2 0 0 (wX q d I A) 18 [(0, .ref (q 0)), (1, .int 1)] [.int 1, .ref (q 24)]
        refine lX_14 hk (vp_in_iff.mpr ⟨by decide, by decide⟩) rfl dX11_restore_18 ?_
        refine gX_i25 (v := (I 25)) hk hin8 (List.mem_cons_of_mem _ (List.mem_append_left _ (List.mem_of_getElem? (i := 1) rfl))) dX11_restore_19 rfl ?_
        have b10193l := Int32.le_toInt (I 25)
        have b10193h := Int32.toInt_lt (I 25)
        refine g_if_ne (tgt := 27) (a := (I 25).toInt) hk dX11_restore_22 (by decide) rfl (fun c10194 => ?_) (fun c10194 => ?_)
        · skip
          refine g_aload_n hk dX11_restore_27 rfl ?_
          refine g_aload_n hk dX11_restore_28 rfl ?_
          refine gX_r0_6 hk hin11 (List.mem_cons_of_mem _ (List.mem_append_left _ (List.mem_of_getElem? (i := 0) rfl))) dX11_restore_29 ?_
          refine g_iload_n hk dX11_restore_32 rfl ?_
          refine lX_14 hk (vp_in_iff.mpr ⟨by decide, by decide⟩) rfl dX11_restore_33 ?_
          refine g_callV (n := 1) hk (k327_X11_goOnFrom l D zt q d I A  hIv) (SP.same _) (fun _ h => h) (gi_V (List.mem_cons_of_mem _ (List.mem_append_left _ (List.mem_of_getElem? (i := 2) rfl))) (List.mem_cons_of_mem _ (List.mem_append_left _ (List.mem_of_getElem? (i := 3) rfl))) (List.mem_cons_of_mem _ (List.mem_append_left _ (List.mem_of_getElem? (i := 4) rfl))) (List.mem_cons_of_mem _ (List.mem_append_left _ (List.mem_of_getElem? (i := 5) rfl))) (gi_sub (fun w h => (List.mem_cons_of_mem _ (List.mem_append_right _ (List.mem_append_right _ (List.mem_append_right _ (List.mem_append_right _ (List.mem_append_left _ h))))))) zg_k327_X11_goOnFrom)) rfl rfl rfl (by decide +kernel) ⟨Nat.le_of_ble_eq_true rfl, Nat.le_of_ble_eq_true rfl⟩ 0 rfl rfl rfl rfl (Nat.le_of_ble_eq_true rfl) ⟨Nat.le_of_ble_eq_true rfl, Nat.le_of_ble_eq_true rfl⟩ dX11_restore_34 (fun v ty' w' hp hk' => ?_)
          obtain ⟨I10283, A10283, hI10283, hA10283, hV10283, rfl, rfl⟩ := hp
          show GW κ 2 0 0 (wX q d I10283 A10283) 37 [(0, .ref (q 0)), (1, .int 1)] []
          refine g_iconst (v := 1) hk dX11_restore_37 (by decide) ?_
          exact g_iret hk hR rfl ⟨I10283, A10283, (show Md [17, 18, 21] I I10283 from (Md.tr Md.rf hI10283 rfl)), (show Md [7, 10] A A10283 from (Md.tr Md.rf hA10283 rfl)), hV10283, 1, (by decide), (by decide), rfl, rfl⟩ dX11_restore_38
        · skip
          refine g_iconst (v := 0) hk dX11_restore_25 (by decide) ?_
          exact g_iret hk hR rfl ⟨I, A, (show Md [17, 18, 21] I I from Md.rf), (show Md [7, 10] A A from Md.rf), hIv, 0, (by decide), (by decide), rfl, rfl⟩ dX11_restore_26
      by_cases c10284 : z1.toInt = 2
      · have ec10284 : z1 = 2 := Int32.toInt_inj.mp c10284
        rw [ec10284]
        show GW κ 2 0 0 (wX q d I A) 18 [(0, .ref (q 0)), (1, .int 2)] [.int 2, .ref (q 24)]
        refine lX_14 hk (vp_in_iff.mpr ⟨by decide, by decide⟩) rfl dX11_restore_18 ?_
        refine gX_i27 (v := (I 27)) hk hin8 (List.mem_cons_of_mem _ (List.mem_append_left _ (List.mem_of_getElem? (i := 1) rfl))) dX11_restore_19 rfl ?_
        have b10285l := Int32.le_toInt (I 27)
        have b10285h := Int32.toInt_lt (I 27)
        refine g_if_ne (tgt := 27) (a := (I 27).toInt) hk dX11_restore_22 (by decide) rfl (fun c10286 => ?_) (fun c10286 => ?_)
        · skip
          refine g_aload_n hk dX11_restore_27 rfl ?_
          refine g_aload_n hk dX11_restore_28 rfl ?_
          refine gX_r0_6 hk hin11 (List.mem_cons_of_mem _ (List.mem_append_left _ (List.mem_of_getElem? (i := 0) rfl))) dX11_restore_29 ?_
          refine g_iload_n hk dX11_restore_32 rfl ?_
          refine lX_14 hk (vp_in_iff.mpr ⟨by decide, by decide⟩) rfl dX11_restore_33 ?_
          refine g_callV (n := 1) hk (k332_X11_goOnFrom l D zt q d I A  hIv) (SP.same _) (fun _ h => h) (gi_V (List.mem_cons_of_mem _ (List.mem_append_left _ (List.mem_of_getElem? (i := 2) rfl))) (List.mem_cons_of_mem _ (List.mem_append_left _ (List.mem_of_getElem? (i := 3) rfl))) (List.mem_cons_of_mem _ (List.mem_append_left _ (List.mem_of_getElem? (i := 4) rfl))) (List.mem_cons_of_mem _ (List.mem_append_left _ (List.mem_of_getElem? (i := 5) rfl))) (gi_sub (fun w h => (List.mem_cons_of_mem _ (List.mem_append_right _ (List.mem_append_right _ (List.mem_append_right _ (List.mem_append_right _ (List.mem_append_right _ (List.mem_append_left _ h)))))))) zg_k332_X11_goOnFrom)) rfl rfl rfl (by decide +kernel) ⟨Nat.le_of_ble_eq_true rfl, Nat.le_of_ble_eq_true rfl⟩ 0 rfl rfl rfl rfl (Nat.le_of_ble_eq_true rfl) ⟨Nat.le_of_ble_eq_true rfl, Nat.le_of_ble_eq_true rfl⟩ dX11_restore_34 (fun v ty' w' hp hk' => ?_)
          obtain ⟨I10375, A10375, hI10375, hA10375, hV10375, rfl, rfl⟩ := hp
          show GW κ 2 0 0 (wX q d I10375 A10375) 37 [(0, .ref (q 0)), (1, .int 2)] []
          refine g_iconst (v := 1) hk dX11_restore_37 (by decide) ?_
          exact g_iret hk hR rfl ⟨I10375, A10375, (show Md [17, 18, 21] I I10375 from (Md.tr Md.rf hI10375 rfl)), (show Md [7, 10] A A10375 from (Md.tr Md.rf hA10375 rfl)), hV10375, 1, (by decide), (by decide), rfl, rfl⟩ dX11_restore_38
        · skip
          refine g_iconst (v := 0) hk dX11_restore_25 (by decide) ?_
          exact g_iret hk hR rfl ⟨I, A, (show Md [17, 18, 21] I I from Md.rf), (show Md [7, 10] A A from Md.rf), hIv, 0, (by decide), (by decide), rfl, rfl⟩ dX11_restore_26
      exfalso; omega
def wo_k338_X6_gapCount : List Cond := [Cond.fieldLink RX6 19 "WarpDesk$Series" "size" "I", Cond.methodLink RX6 37 yX6_hasReading, Cond.instanceMethod yX6_hasReading, Cond.selects RX6 yX6_hasReading yX6_hasReading, Cond.initialized RX6]
def wz_k338_X6_gapCount : List Cond := .code yX6_gapCount cX6_gapCount 3 (some .int) :: (wo_k338_X6_gapCount ++ (wsX60 ++ (wz_k188_X6_hasReading ++ ([] : List Cond))))
theorem zg_k338_X6_gapCount : ∀ w ∈ wz_k338_X6_gapCount, goodWord w = true := zg_cons rfl (zg_app (by decide +kernel) (zg_app zgU_wsX60 (zg_app zg_k188_X6_hasReading zg_nil)))
theorem zi_k338_X6_gapCount : ∀ w ∈ wz_k338_X6_gapCount, w ∈ lw_tbl := zi_cons zw_1346 (zi_app (zi_cons zw_282 (zi_cons zw_905 (zi_cons zw_840 (zi_cons zw_841 (zi_cons zw_109 zi_nil))))) (zi_app inX6 (zi_app zi_k188_X6_hasReading zi_nil)))
set_option maxHeartbeats 4000000 in
set_option maxRecDepth 100000 in
theorem k338_X6_gapCount (l : Launch) (D : va_G) (zt : Nat × Nat × Nat × (Nat → Nat) × (Nat → Nat)) (q : Nat → Nat) (d : Nat → ClassId) (I : Nat → Int32) (A : Nat → Nat → Int32) (hIv : IvX I A) : GM l D zt (tyX d) yX6_gapCount wz_k338_X6_gapCount ({ frames := 2, cells := 0, slots := 0, locals := 42 } : Room) [.ref (q 13)] (wX q d I A) (fun v _ w' => ∃ y0 : Int32, v = some (.int y0) ∧ w' = wX q d I A) 0 0 := by
  refine GM.of (cc := cX6_gapCount) (maxL := 3) (ret := (some .int)) (own := RX6) (lv := [(0, .ref (q 13))]) (by decide) rfl rfl (Nat.le_of_ble_eq_true rfl) rfl (fun κ sz hk hR hN => ?_)
  have hin6 : ∀ w ∈ u_ws RX6 TX6 3, w ∈ wz_k338_X6_gapCount := fun w h => (List.mem_cons_of_mem _ (List.mem_append_right _ (List.mem_append_left _ h)))
  refine g_iconst (v := 0) hk dX6_gapCount_0 (by decide) ?_
  refine g_istore_n (lv' := [(1, .int 0), (0, .ref (q 13))]) hk dX6_gapCount_1 (by decide) rfl ?_
  refine g_iconst (v := 0) hk dX6_gapCount_2 (by decide) ?_
  refine g_istore_n (lv' := [(2, .int 0), (1, .int 0), (0, .ref (q 13))]) hk dX6_gapCount_3 (by decide) rfl ?_
  have lp10423 : ∀ (n10424 : Nat) (x10379 : Int32) (x10380 : Int32), (0 ≤ x10379.toInt) → (x10379.toInt ≤ 160) → (161 - x10379.toInt < (n10424 : Int)) → (0 < n10424) → GW κ 3 0 0 (wX q d I A) 4 [(2, .int x10379), (1, .int x10380), (0, .ref (q 13))] [] := by
    intro n10424
    induction n10424 with
    | zero =>
      intro x10379 x10380 h10421 h10422 m10425 m10425z
      exact absurd m10425z (Nat.lt_irrefl 0)
    | succ n10424 ih10426 =>
      intro x10379 x10380 h10421 h10422 m10425 m10425z
      refine g_iload_n hk dX6_gapCount_4 rfl ?_
      refine g_aload_n hk dX6_gapCount_5 rfl ?_
      refine gX_i18 (v := (I 18)) hk hin6 (List.mem_cons_of_mem _ (List.mem_append_left _ (List.mem_of_getElem? (i := 0) rfl))) dX6_gapCount_6 rfl ?_
      have f10427 := IvX_f18 hIv
      refine g_icmp_ge (tgt := 29) (a := x10379.toInt) (b := (I 18).toInt) hk dX6_gapCount_9 (by decide) rfl rfl (fun c10428 => ?_) (fun c10428 => ?_)
      · skip
        refine g_iload_n hk dX6_gapCount_29 rfl ?_
        have b10429l := Int32.le_toInt x10380
        have b10429h := Int32.toInt_lt x10380
        exact g_iret hk hR rfl ⟨x10380, rfl, rfl⟩ dX6_gapCount_30
      · skip
        refine g_aload_n hk dX6_gapCount_12 rfl ?_
        refine g_iload_n hk dX6_gapCount_13 rfl ?_
        refine g_callV (n := 1) hk (k188_X6_hasReading l D zt q d I A x10379 hIv) (SP.same _) (fun _ h => h) (gi_V (List.mem_cons_of_mem _ (List.mem_append_left _ (List.mem_of_getElem? (i := 1) rfl))) (List.mem_cons_of_mem _ (List.mem_append_left _ (List.mem_of_getElem? (i := 2) rfl))) (List.mem_cons_of_mem _ (List.mem_append_left _ (List.mem_of_getElem? (i := 3) rfl))) (List.mem_cons_of_mem _ (List.mem_append_left _ (List.mem_of_getElem? (i := 4) rfl))) (gi_sub (fun w h => (List.mem_cons_of_mem _ (List.mem_append_right _ (List.mem_append_right _ (List.mem_append_left _ h))))) zg_k188_X6_hasReading)) rfl rfl rfl (by decide +kernel) ⟨Nat.le_of_ble_eq_true rfl, Nat.le_of_ble_eq_true rfl⟩ 13 rfl rfl rfl rfl (Nat.le_of_ble_eq_true rfl) ⟨Nat.le_of_ble_eq_true rfl, Nat.le_of_ble_eq_true rfl⟩ dX6_gapCount_14 (fun v ty' w' hp hk' => ?_)
        rcases hp with ⟨rfl, rfl⟩ | ⟨rfl, rfl⟩
        · skip
          show GW κ 3 0 0 (wX q d I A) 17 [(2, .int x10379), (1, .int x10380), (0, .ref (q 13))] [.int 0]
          refine g_if_ne (tgt := 23) (a := 0) hk dX6_gapCount_17 (by decide) rfl (fun z9 => absurd z9 (show ¬ ((0 : Int) ≠ (0 : Int)) from by decide)) (fun _ => ?_)
          have b10432l := Int32.le_toInt x10380
          have b10432h := Int32.toInt_lt x10380
          obtain ⟨y10433, ey10433⟩ : ∃ y : Int32, y = x10380 + Int32.ofInt 1 := ⟨_, rfl⟩
          refine g_iinc (v := y10433) (lv' := [(1, .int y10433), (2, .int x10379), (0, .ref (q 13))]) hk 1 dX6_gapCount_20 rfl ey10433.symm (by decide) rfl ?_
          obtain ⟨y10434, ey10434⟩ : ∃ y : Int32, y = x10379 + Int32.ofInt 1 := ⟨_, rfl⟩
          have hy10434 : y10434.toInt = x10379.toInt + 1 := i32_add ey10434 rfl (by decide) (by omega) (by omega)
          refine g_iinc (v := y10434) (lv' := [(2, .int y10434), (1, .int y10433), (0, .ref (q 13))]) hk 1 dX6_gapCount_23 rfl ey10434.symm (by decide) rfl ?_
          refine g_goto (tgt := 4) hk dX6_gapCount_26 (by decide) ?_
          exact g_lv (List.forall_mem_cons.mpr ⟨List.mem_of_getElem? (i := 0) rfl, (List.forall_mem_cons.mpr ⟨List.mem_of_getElem? (i := 1) rfl, (List.forall_mem_cons.mpr ⟨List.mem_of_getElem? (i := 2) rfl, (fun _ h => absurd h List.not_mem_nil)⟩)⟩)⟩) (ih10426 y10434 y10433 (by omega) (by omega) (by omega) (by omega))
        · skip
          show GW κ 3 0 0 (wX q d I A) 17 [(2, .int x10379), (1, .int x10380), (0, .ref (q 13))] [.int 1]
          refine g_if_ne (tgt := 23) (a := 1) hk dX6_gapCount_17 (by decide) rfl (fun _ => ?_) (fun z9 => absurd (show (1 : Int) ≠ (0 : Int) from by decide) z9)
          obtain ⟨y10435, ey10435⟩ : ∃ y : Int32, y = x10379 + Int32.ofInt 1 := ⟨_, rfl⟩
          have hy10435 : y10435.toInt = x10379.toInt + 1 := i32_add ey10435 rfl (by decide) (by omega) (by omega)
          refine g_iinc (v := y10435) (lv' := [(2, .int y10435), (1, .int x10380), (0, .ref (q 13))]) hk 0 dX6_gapCount_23 rfl ey10435.symm (by decide) rfl ?_
          refine g_goto (tgt := 4) hk dX6_gapCount_26 (by decide) ?_
          exact g_lv (List.forall_mem_cons.mpr ⟨List.mem_of_getElem? (i := 0) rfl, (List.forall_mem_cons.mpr ⟨List.mem_of_getElem? (i := 1) rfl, (List.forall_mem_cons.mpr ⟨List.mem_of_getElem? (i := 2) rfl, (fun _ h => absurd h List.not_mem_nil)⟩)⟩)⟩) (ih10426 y10435 x10380 (by omega) (by omega) (by omega) (by omega))
  have k10437 : (0 : Int32).toInt = 0 := rfl
  obtain ⟨n10436, n10436a, n10436b⟩ : ∃ n : Nat, 161 - 0 < (n : Int) ∧ 0 < n := ⟨((161 - 0 : Int)).toNat + 1, by omega, by omega⟩
  exact lp10423 n10436 0 0 (by omega) (by omega) n10436a n10436b
def wo_k339_X6_readingsAtEnd : List Cond := [Cond.fieldLink RX6 19 "WarpDesk$Series" "size" "I", Cond.methodLink RX6 37 yX6_hasReading, Cond.instanceMethod yX6_hasReading, Cond.selects RX6 yX6_hasReading yX6_hasReading, Cond.initialized RX6]
def wz_k339_X6_readingsAtEnd : List Cond := .code yX6_readingsAtEnd cX6_readingsAtEnd 3 (some .int) :: (wo_k339_X6_readingsAtEnd ++ (wsX60 ++ (wz_k188_X6_hasReading ++ ([] : List Cond))))
theorem zg_k339_X6_readingsAtEnd : ∀ w ∈ wz_k339_X6_readingsAtEnd, goodWord w = true := zg_cons rfl (zg_app (by decide +kernel) (zg_app zgU_wsX60 (zg_app zg_k188_X6_hasReading zg_nil)))
theorem zi_k339_X6_readingsAtEnd : ∀ w ∈ wz_k339_X6_readingsAtEnd, w ∈ lw_tbl := zi_cons zw_1350 (zi_app (zi_cons zw_282 (zi_cons zw_905 (zi_cons zw_840 (zi_cons zw_841 (zi_cons zw_109 zi_nil))))) (zi_app inX6 (zi_app zi_k188_X6_hasReading zi_nil)))
set_option maxHeartbeats 4000000 in
set_option maxRecDepth 100000 in
theorem k339_X6_readingsAtEnd (l : Launch) (D : va_G) (zt : Nat × Nat × Nat × (Nat → Nat) × (Nat → Nat)) (q : Nat → Nat) (d : Nat → ClassId) (I : Nat → Int32) (A : Nat → Nat → Int32) (hIv : IvX I A) : GM l D zt (tyX d) yX6_readingsAtEnd wz_k339_X6_readingsAtEnd ({ frames := 2, cells := 0, slots := 0, locals := 42 } : Room) [.ref (q 13)] (wX q d I A) (fun v _ w' => ∃ y0 : Int32, v = some (.int y0) ∧ w' = wX q d I A) 0 0 := by
  refine GM.of (cc := cX6_readingsAtEnd) (maxL := 3) (ret := (some .int)) (own := RX6) (lv := [(0, .ref (q 13))]) (by decide) rfl rfl (Nat.le_of_ble_eq_true rfl) rfl (fun κ sz hk hR hN => ?_)
  have hin6 : ∀ w ∈ u_ws RX6 TX6 3, w ∈ wz_k339_X6_readingsAtEnd := fun w h => (List.mem_cons_of_mem _ (List.mem_append_right _ (List.mem_append_left _ h)))
  refine g_iconst (v := 0) hk dX6_readingsAtEnd_0 (by decide) ?_
  refine g_istore_n (lv' := [(1, .int 0), (0, .ref (q 13))]) hk dX6_readingsAtEnd_1 (by decide) rfl ?_
  refine g_aload_n hk dX6_readingsAtEnd_2 rfl ?_
  refine gX_i18 (v := (I 18)) hk hin6 (List.mem_cons_of_mem _ (List.mem_append_left _ (List.mem_of_getElem? (i := 0) rfl))) dX6_readingsAtEnd_3 rfl ?_
  have f10459 := IvX_f18 hIv
  refine g_iconst (v := 1) hk dX6_readingsAtEnd_6 (by decide) ?_
  refine g_isub hk dX6_readingsAtEnd_7 ?_
  refine g_topi (fun y10460 ey10460 => ?_)
  have hy10460 : y10460.toInt = (I 18).toInt - 1 := i32_sub ey10460 rfl rfl (by omega) (by omega)
  refine g_istore_n (lv' := [(2, .int y10460), (1, .int 0), (0, .ref (q 13))]) hk dX6_readingsAtEnd_8 (by decide) rfl ?_
  have lp10488 : ∀ (n10489 : Nat) (x10461 : Int32) (x10462 : Int32), ((-1) ≤ x10461.toInt) → (x10461.toInt ≤ 159) → (x10461.toInt + 1 - 0 < (n10489 : Int)) → (0 < n10489) → GW κ 3 0 0 (wX q d I A) 9 [(2, .int x10461), (1, .int x10462), (0, .ref (q 13))] [] := by
    intro n10489
    induction n10489 with
    | zero =>
      intro x10461 x10462 h10486 h10487 m10490 m10490z
      exact absurd m10490z (Nat.lt_irrefl 0)
    | succ n10489 ih10491 =>
      intro x10461 x10462 h10486 h10487 m10490 m10490z
      refine g_iload_n hk dX6_readingsAtEnd_9 rfl ?_
      refine g_if_lt (tgt := 30) (a := x10461.toInt) hk dX6_readingsAtEnd_10 (by decide) rfl (fun c10492 => ?_) (fun c10492 => ?_)
      · skip
        refine g_iload_n hk dX6_readingsAtEnd_30 rfl ?_
        have b10493l := Int32.le_toInt x10462
        have b10493h := Int32.toInt_lt x10462
        exact g_iret hk hR rfl ⟨x10462, rfl, rfl⟩ dX6_readingsAtEnd_31
      · skip
        refine g_aload_n hk dX6_readingsAtEnd_13 rfl ?_
        refine g_iload_n hk dX6_readingsAtEnd_14 rfl ?_
        refine g_callV (n := 1) hk (k188_X6_hasReading l D zt q d I A x10461 hIv) (SP.same _) (fun _ h => h) (gi_V (List.mem_cons_of_mem _ (List.mem_append_left _ (List.mem_of_getElem? (i := 1) rfl))) (List.mem_cons_of_mem _ (List.mem_append_left _ (List.mem_of_getElem? (i := 2) rfl))) (List.mem_cons_of_mem _ (List.mem_append_left _ (List.mem_of_getElem? (i := 3) rfl))) (List.mem_cons_of_mem _ (List.mem_append_left _ (List.mem_of_getElem? (i := 4) rfl))) (gi_sub (fun w h => (List.mem_cons_of_mem _ (List.mem_append_right _ (List.mem_append_right _ (List.mem_append_left _ h))))) zg_k188_X6_hasReading)) rfl rfl rfl (by decide +kernel) ⟨Nat.le_of_ble_eq_true rfl, Nat.le_of_ble_eq_true rfl⟩ 13 rfl rfl rfl rfl (Nat.le_of_ble_eq_true rfl) ⟨Nat.le_of_ble_eq_true rfl, Nat.le_of_ble_eq_true rfl⟩ dX6_readingsAtEnd_15 (fun v ty' w' hp hk' => ?_)
        rcases hp with ⟨rfl, rfl⟩ | ⟨rfl, rfl⟩
        · skip
          show GW κ 3 0 0 (wX q d I A) 18 [(2, .int x10461), (1, .int x10462), (0, .ref (q 13))] [.int 0]
          refine g_if_eq (tgt := 30) (a := 0) hk dX6_readingsAtEnd_18 (by decide) rfl (fun _ => ?_) (fun z9 => absurd (show (0 : Int) = (0 : Int) from by decide) z9)
          refine g_iload_n hk dX6_readingsAtEnd_30 rfl ?_
          have b10496l := Int32.le_toInt x10462
          have b10496h := Int32.toInt_lt x10462
          exact g_iret hk hR rfl ⟨x10462, rfl, rfl⟩ dX6_readingsAtEnd_31
        · skip
          show GW κ 3 0 0 (wX q d I A) 18 [(2, .int x10461), (1, .int x10462), (0, .ref (q 13))] [.int 1]
          refine g_if_eq (tgt := 30) (a := 1) hk dX6_readingsAtEnd_18 (by decide) rfl (fun z9 => absurd z9 (show ¬ ((1 : Int) = (0 : Int)) from by decide)) (fun _ => ?_)
          have b10497l := Int32.le_toInt x10462
          have b10497h := Int32.toInt_lt x10462
          obtain ⟨y10498, ey10498⟩ : ∃ y : Int32, y = x10462 + Int32.ofInt 1 := ⟨_, rfl⟩
          refine g_iinc (v := y10498) (lv' := [(1, .int y10498), (2, .int x10461), (0, .ref (q 13))]) hk 1 dX6_readingsAtEnd_21 rfl ey10498.symm (by decide) rfl ?_
          obtain ⟨y10499, ey10499⟩ : ∃ y : Int32, y = x10461 + Int32.ofInt (-1) := ⟨_, rfl⟩
          have hy10499 : y10499.toInt = x10461.toInt + (-1) := i32_add ey10499 rfl (by decide) (by omega) (by omega)
          refine g_iinc (v := y10499) (lv' := [(2, .int y10499), (1, .int y10498), (0, .ref (q 13))]) hk 1 dX6_readingsAtEnd_24 rfl ey10499.symm (by decide) rfl ?_
          refine g_goto (tgt := 9) hk dX6_readingsAtEnd_27 (by decide) ?_
          exact g_lv (List.forall_mem_cons.mpr ⟨List.mem_of_getElem? (i := 0) rfl, (List.forall_mem_cons.mpr ⟨List.mem_of_getElem? (i := 1) rfl, (List.forall_mem_cons.mpr ⟨List.mem_of_getElem? (i := 2) rfl, (fun _ h => absurd h List.not_mem_nil)⟩)⟩)⟩) (ih10491 y10499 y10498 (by omega) (by omega) (by omega) (by omega))
  have k10501 : (0 : Int32).toInt = 0 := rfl
  obtain ⟨n10500, n10500a, n10500b⟩ : ∃ n : Nat, y10460.toInt + 1 - 0 < (n : Int) ∧ 0 < n := ⟨((y10460.toInt + 1 - 0 : Int)).toNat + 1, by omega, by omega⟩
  exact lp10488 n10500 y10460 0 (by omega) (by omega) n10500a n10500b
def wo_k340_X11_slotsHeld : List Cond := [Cond.fieldLink RX11 56 "WarpDesk" "slots" "[LWarpDesk$Stand;", Cond.fieldLink RX11 110 "WarpDesk$Stand" "held" "Z"]
def wz_k340_X11_slotsHeld : List Cond := .code yX11_slotsHeld cX11_slotsHeld 3 (some .int) :: (wo_k340_X11_slotsHeld ++ (wsX80 ++ (wsX110 ++ ([] : List Cond))))
theorem zg_k340_X11_slotsHeld : ∀ w ∈ wz_k340_X11_slotsHeld, goodWord w = true := zg_cons rfl (zg_app (by decide +kernel) (zg_app zgU_wsX80 (zg_app zgU_wsX110 zg_nil)))
theorem zi_k340_X11_slotsHeld : ∀ w ∈ wz_k340_X11_slotsHeld, w ∈ lw_tbl := zi_cons zw_1354 (zi_app (zi_cons zw_493 (zi_cons zw_201 zi_nil)) (zi_app inX8 (zi_app inX11 zi_nil)))
set_option maxHeartbeats 4000000 in
set_option maxRecDepth 100000 in
theorem k340_X11_slotsHeld (l : Launch) (D : va_G) (zt : Nat × Nat × Nat × (Nat → Nat) × (Nat → Nat)) (q : Nat → Nat) (d : Nat → ClassId) (I : Nat → Int32) (A : Nat → Nat → Int32) (hIv : IvX I A) : GM l D zt (tyX d) yX11_slotsHeld wz_k340_X11_slotsHeld ({ frames := 0, cells := 0, slots := 0, locals := 0 } : Room) [.ref (q 0)] (wX q d I A) (fun v _ w' => ∃ y0 : Int32, v = some (.int y0) ∧ w' = wX q d I A) 0 0 := by
  refine GM.of (cc := cX11_slotsHeld) (maxL := 3) (ret := (some .int)) (own := RX11) (lv := [(0, .ref (q 0))]) (by decide) rfl rfl (Nat.le_of_ble_eq_true rfl) rfl (fun κ sz hk hR hN => ?_)
  have hin8 : ∀ w ∈ u_ws RX8 TX8 4, w ∈ wz_k340_X11_slotsHeld := fun w h => (List.mem_cons_of_mem _ (List.mem_append_right _ (List.mem_append_left _ h)))
  have hin11 : ∀ w ∈ u_ws RX11 TX11 10, w ∈ wz_k340_X11_slotsHeld := fun w h => (List.mem_cons_of_mem _ (List.mem_append_right _ (List.mem_append_right _ (List.mem_append_left _ h))))
  refine g_iconst (v := 0) hk dX11_slotsHeld_0 (by decide) ?_
  refine g_istore_n (lv' := [(1, .int 0), (0, .ref (q 0))]) hk dX11_slotsHeld_1 (by decide) rfl ?_
  refine g_iconst (v := 0) hk dX11_slotsHeld_2 (by decide) ?_
  refine g_istore_n (lv' := [(2, .int 0), (1, .int 0), (0, .ref (q 0))]) hk dX11_slotsHeld_3 (by decide) rfl ?_
  have lp10561 : ∀ (n10562 : Nat) (x10514 : Int32) (x10515 : Int32), (0 ≤ x10514.toInt) → (x10514.toInt ≤ 3) → (3 - x10514.toInt < (n10562 : Int)) → (0 < n10562) → GW κ 3 0 0 (wX q d I A) 4 [(2, .int x10514), (1, .int x10515), (0, .ref (q 0))] [] := by
    intro n10562
    induction n10562 with
    | zero =>
      intro x10514 x10515 h10559 h10560 m10563 m10563z
      exact absurd m10563z (Nat.lt_irrefl 0)
    | succ n10562 ih10564 =>
      intro x10514 x10515 h10559 h10560 m10563 m10563z
      refine g_iload_n hk dX11_slotsHeld_4 rfl ?_
      refine g_aload_n hk dX11_slotsHeld_5 rfl ?_
      refine gX_r0_6 hk hin11 (List.mem_cons_of_mem _ (List.mem_append_left _ (List.mem_of_getElem? (i := 0) rfl))) dX11_slotsHeld_6 ?_
      refine nX_14 hk dX11_slotsHeld_9 ?_
      refine g_icmp_ge (tgt := 34) (a := x10514.toInt) (b := 3) hk dX11_slotsHeld_10 (by decide) rfl rfl (fun c10565 => ?_) (fun c10565 => ?_)
      · skip
        refine g_iload_n hk dX11_slotsHeld_34 rfl ?_
        have b10566l := Int32.le_toInt x10515
        have b10566h := Int32.toInt_lt x10515
        exact g_iret hk hR rfl ⟨x10515, rfl, rfl⟩ dX11_slotsHeld_35
      · skip
        refine g_aload_n hk dX11_slotsHeld_13 rfl ?_
        refine gX_r0_6 hk hin11 (List.mem_cons_of_mem _ (List.mem_append_left _ (List.mem_of_getElem? (i := 0) rfl))) dX11_slotsHeld_14 ?_
        refine g_iload_n hk dX11_slotsHeld_17 rfl ?_
        by_cases c10567 : x10514.toInt = 0
        · have ec10567 : x10514 = 0 := Int32.toInt_inj.mp c10567
          rw [ec10567]
          show GW κ 3 0 0 (wX q d I A) 18 [(2, .int 0), (1, .int x10515), (0, .ref (q 0))] [.int 0, .ref (q 24)]
          refine lX_14 hk (vp_in_iff.mpr ⟨by decide, by decide⟩) rfl dX11_slotsHeld_18 ?_
          refine gX_i23 (v := (I 23)) hk hin8 (List.mem_cons_of_mem _ (List.mem_append_left _ (List.mem_of_getElem? (i := 1) rfl))) dX11_slotsHeld_19 rfl ?_
          have b10568l := Int32.le_toInt (I 23)
          have b10568h := Int32.toInt_lt (I 23)
          refine g_if_eq (tgt := 28) (a := (I 23).toInt) hk dX11_slotsHeld_22 (by decide) rfl (fun c10569 => ?_) (fun c10569 => ?_)
          · skip
            refine g_iinc (v := 1) (lv' := [(2, .int 1), (1, .int x10515), (0, .ref (q 0))]) hk 0 dX11_slotsHeld_28 rfl (by decide) (by decide) rfl ?_
            refine g_goto (tgt := 4) hk dX11_slotsHeld_31 (by decide) ?_
            have k10570 : (1 : Int32).toInt = 1 := rfl
            exact g_lv (List.forall_mem_cons.mpr ⟨List.mem_of_getElem? (i := 0) rfl, (List.forall_mem_cons.mpr ⟨List.mem_of_getElem? (i := 1) rfl, (List.forall_mem_cons.mpr ⟨List.mem_of_getElem? (i := 2) rfl, (fun _ h => absurd h List.not_mem_nil)⟩)⟩)⟩) (ih10564 1 x10515 (by omega) (by omega) (by omega) (by omega))
          · skip
            have b10571l := Int32.le_toInt x10515
            have b10571h := Int32.toInt_lt x10515
            obtain ⟨y10572, ey10572⟩ : ∃ y : Int32, y = x10515 + Int32.ofInt 1 := ⟨_, rfl⟩
            refine g_iinc (v := y10572) (lv' := [(1, .int y10572), (2, .int 0), (0, .ref (q 0))]) hk 1 dX11_slotsHeld_25 rfl ey10572.symm (by decide) rfl ?_
            refine g_iinc (v := 1) (lv' := [(2, .int 1), (1, .int y10572), (0, .ref (q 0))]) hk 1 dX11_slotsHeld_28 rfl (by decide) (by decide) rfl ?_
            refine g_goto (tgt := 4) hk dX11_slotsHeld_31 (by decide) ?_
            have k10573 : (1 : Int32).toInt = 1 := rfl
            exact g_lv (List.forall_mem_cons.mpr ⟨List.mem_of_getElem? (i := 0) rfl, (List.forall_mem_cons.mpr ⟨List.mem_of_getElem? (i := 1) rfl, (List.forall_mem_cons.mpr ⟨List.mem_of_getElem? (i := 2) rfl, (fun _ h => absurd h List.not_mem_nil)⟩)⟩)⟩) (ih10564 1 y10572 (by omega) (by omega) (by omega) (by omega))
        by_cases c10574 : x10514.toInt = 1
        · have ec10574 : x10514 = 1 := Int32.toInt_inj.mp c10574
          rw [ec10574]
          show GW κ 3 0 0 (wX q d I A) 18 [(2, .int 1), (1, .int x10515), (0, .ref (q 0))] [.int 1, .ref (q 24)]
          refine lX_14 hk (vp_in_iff.mpr ⟨by decide, by decide⟩) rfl dX11_slotsHeld_18 ?_
          refine gX_i25 (v := (I 25)) hk hin8 (List.mem_cons_of_mem _ (List.mem_append_left _ (List.mem_of_getElem? (i := 1) rfl))) dX11_slotsHeld_19 rfl ?_
          have b10575l := Int32.le_toInt (I 25)
          have b10575h := Int32.toInt_lt (I 25)
          refine g_if_eq (tgt := 28) (a := (I 25).toInt) hk dX11_slotsHeld_22 (by decide) rfl (fun c10576 => ?_) (fun c10576 => ?_)
          · skip
            refine g_iinc (v := 2) (lv' := [(2, .int 2), (1, .int x10515), (0, .ref (q 0))]) hk 0 dX11_slotsHeld_28 rfl (by decide) (by decide) rfl ?_
            refine g_goto (tgt := 4) hk dX11_slotsHeld_31 (by decide) ?_
            have k10577 : (2 : Int32).toInt = 2 := rfl
            exact g_lv (List.forall_mem_cons.mpr ⟨List.mem_of_getElem? (i := 0) rfl, (List.forall_mem_cons.mpr ⟨List.mem_of_getElem? (i := 1) rfl, (List.forall_mem_cons.mpr ⟨List.mem_of_getElem? (i := 2) rfl, (fun _ h => absurd h List.not_mem_nil)⟩)⟩)⟩) (ih10564 2 x10515 (by omega) (by omega) (by omega) (by omega))
          · skip
            have b10578l := Int32.le_toInt x10515
            have b10578h := Int32.toInt_lt x10515
            obtain ⟨y10579, ey10579⟩ : ∃ y : Int32, y = x10515 + Int32.ofInt 1 := ⟨_, rfl⟩
            refine g_iinc (v := y10579) (lv' := [(1, .int y10579), (2, .int 1), (0, .ref (q 0))]) hk 1 dX11_slotsHeld_25 rfl ey10579.symm (by decide) rfl ?_
            refine g_iinc (v := 2) (lv' := [(2, .int 2), (1, .int y10579), (0, .ref (q 0))]) hk 1 dX11_slotsHeld_28 rfl (by decide) (by decide) rfl ?_
            refine g_goto (tgt := 4) hk dX11_slotsHeld_31 (by decide) ?_
            have k10580 : (2 : Int32).toInt = 2 := rfl
            exact g_lv (List.forall_mem_cons.mpr ⟨List.mem_of_getElem? (i := 0) rfl, (List.forall_mem_cons.mpr ⟨List.mem_of_getElem? (i := 1) rfl, (List.forall_mem_cons.mpr ⟨List.mem_of_getElem? (i := 2) rfl, (fun _ h => absurd h List.not_mem_nil)⟩)⟩)⟩) (ih10564 2 y10579 (by omega) (by omega) (by omega) (by omega))
        by_cases c10581 : x10514.toInt = 2
        · have ec10581 : x10514 = 2 := Int32.toInt_inj.mp c10581
          rw [ec10581]
          show GW κ 3 0 0 (wX q d I A) 18 [(2, .int 2), (1, .int x10515), (0, .ref (q 0))] [.int 2, .ref (q 24)]
          refine lX_14 hk (vp_in_iff.mpr ⟨by decide, by decide⟩) rfl dX11_slotsHeld_18 ?_
          refine gX_i27 (v := (I 27)) hk hin8 (List.mem_cons_of_mem _ (List.mem_append_left _ (List.mem_of_getElem? (i := 1) rfl))) dX11_slotsHeld_19 rfl ?_
          have b10582l := Int32.le_toInt (I 27)
          have b10582h := Int32.toInt_lt (I 27)
          refine g_if_eq (tgt := 28) (a := (I 27).toInt) hk dX11_slotsHeld_22 (by decide) rfl (fun c10583 => ?_) (fun c10583 => ?_)
          · skip
            refine g_iinc (v := 3) (lv' := [(2, .int 3), (1, .int x10515), (0, .ref (q 0))]) hk 0 dX11_slotsHeld_28 rfl (by decide) (by decide) rfl ?_
            refine g_goto (tgt := 4) hk dX11_slotsHeld_31 (by decide) ?_
            have k10584 : (3 : Int32).toInt = 3 := rfl
            exact g_lv (List.forall_mem_cons.mpr ⟨List.mem_of_getElem? (i := 0) rfl, (List.forall_mem_cons.mpr ⟨List.mem_of_getElem? (i := 1) rfl, (List.forall_mem_cons.mpr ⟨List.mem_of_getElem? (i := 2) rfl, (fun _ h => absurd h List.not_mem_nil)⟩)⟩)⟩) (ih10564 3 x10515 (by omega) (by omega) (by omega) (by omega))
          · skip
            have b10585l := Int32.le_toInt x10515
            have b10585h := Int32.toInt_lt x10515
            obtain ⟨y10586, ey10586⟩ : ∃ y : Int32, y = x10515 + Int32.ofInt 1 := ⟨_, rfl⟩
            refine g_iinc (v := y10586) (lv' := [(1, .int y10586), (2, .int 2), (0, .ref (q 0))]) hk 1 dX11_slotsHeld_25 rfl ey10586.symm (by decide) rfl ?_
            refine g_iinc (v := 3) (lv' := [(2, .int 3), (1, .int y10586), (0, .ref (q 0))]) hk 1 dX11_slotsHeld_28 rfl (by decide) (by decide) rfl ?_
            refine g_goto (tgt := 4) hk dX11_slotsHeld_31 (by decide) ?_
            have k10587 : (3 : Int32).toInt = 3 := rfl
            exact g_lv (List.forall_mem_cons.mpr ⟨List.mem_of_getElem? (i := 0) rfl, (List.forall_mem_cons.mpr ⟨List.mem_of_getElem? (i := 1) rfl, (List.forall_mem_cons.mpr ⟨List.mem_of_getElem? (i := 2) rfl, (fun _ h => absurd h List.not_mem_nil)⟩)⟩)⟩) (ih10564 3 y10586 (by omega) (by omega) (by omega) (by omega))
        exfalso; omega
  have k10589 : (0 : Int32).toInt = 0 := rfl
  obtain ⟨n10588, n10588a, n10588b⟩ : ∃ n : Nat, 3 - 0 < (n : Int) ∧ 0 < n := ⟨((3 - 0 : Int)).toNat + 1, by omega, by omega⟩
  exact lp10561 n10588 0 0 (by omega) (by omega) n10588a n10588b
