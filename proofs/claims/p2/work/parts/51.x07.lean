def wo_k304_X11_odd : List Cond := [Cond.methodLink RX11 196 yX11_isStretch, Cond.static yX11_isStretch, Cond.initialized RX11, Cond.fieldLink RX11 81 "WarpDesk" "stretches" "LWarpDesk$Stretches;", Cond.methodLink RX11 344 yX9_findOdd, Cond.instanceMethod yX9_findOdd, Cond.selects RX9 yX9_findOdd yX9_findOdd, Cond.initialized RX9, Cond.fieldLink RX11 350 "WarpDesk$Stretches" "oddDistance" "I", Cond.fieldLink RX11 347 "WarpDesk$Stretches" "oddWindow" "I"]
def wz_k304_X11_odd : List Cond := .code yX11_odd cX11_odd 3 (some .int) :: (wo_k304_X11_odd ++ (wsX90 ++ (wsX110 ++ (wz_k212_X11_isStretch ++ (wz_k305_X9_findOdd ++ ([] : List Cond))))))
theorem zg_k304_X11_odd : ∀ w ∈ wz_k304_X11_odd, goodWord w = true := zg_cons rfl (zg_app (by decide +kernel) (zg_app zgU_wsX90 (zg_app zgU_wsX110 (zg_app zg_k212_X11_isStretch (zg_app zg_k305_X9_findOdd zg_nil)))))
theorem zi_k304_X11_odd : ∀ w ∈ wz_k304_X11_odd, w ∈ lw_tbl := zi_cons zw_1300 (zi_app (zi_cons zw_926 (zi_cons zw_927 (zi_cons zw_103 (zi_cons zw_496 (zi_cons zw_1301 (zi_cons zw_1302 (zi_cons zw_1303 (zi_cons zw_114 (zi_cons zw_463 (zi_cons zw_461 zi_nil)))))))))) (zi_app inX9 (zi_app inX11 (zi_app zi_k212_X11_isStretch (zi_app zi_k305_X9_findOdd zi_nil)))))
set_option maxHeartbeats 4000000 in
set_option maxRecDepth 100000 in
theorem k304_X11_odd (l : Launch) (D : va_G) (zt : Nat × Nat × Nat × (Nat → Nat) × (Nat → Nat)) (q : Nat → Nat) (d : Nat → ClassId) (I : Nat → Int32) (A : Nat → Nat → Int32) (z1 : Int32) (z2 : Int32) (hIv : IvX I A) : GM l D zt (tyX d) yX11_odd wz_k304_X11_odd ({ frames := 6, cells := 0, slots := 0, locals := 140 } : Room) [.ref (q 0), .int z1, .int z2] (wX q d I A) (fun v _ w' => ∃ (I' : Nat → Int32) (A' : Nat → Nat → Int32), Md [28, 30, 31, 32, 33, 34, 38, 39, 43, 44] I I' ∧ Md [21, 22, 23, 30, 31] A A' ∧ IvX I' A' ∧ ∃ y0 : Int32, v = some (.int y0) ∧ w' = wX q d I' A') 0 0 := by
  refine GM.of (cc := cX11_odd) (maxL := 3) (ret := (some .int)) (own := RX11) (lv := [(0, .ref (q 0)), (1, .int z1), (2, .int z2)]) (by decide) rfl rfl (Nat.le_of_ble_eq_true rfl) rfl (fun κ sz hk hR hN => ?_)
  have hin9 : ∀ w ∈ u_ws RX9 TX9 11, w ∈ wz_k304_X11_odd := fun w h => (List.mem_cons_of_mem _ (List.mem_append_right _ (List.mem_append_left _ h)))
  have hin11 : ∀ w ∈ u_ws RX11 TX11 10, w ∈ wz_k304_X11_odd := fun w h => (List.mem_cons_of_mem _ (List.mem_append_right _ (List.mem_append_right _ (List.mem_append_left _ h))))
  refine g_iload_n hk dX11_odd_0 rfl ?_
  refine g_callS (n := 1) hk (k212_X11_isStretch l D zt q d I A z1 hIv) (SP.same _) (fun _ h => h) (gi_S (List.mem_cons_of_mem _ (List.mem_append_left _ (List.mem_of_getElem? (i := 0) rfl))) (List.mem_cons_of_mem _ (List.mem_append_left _ (List.mem_of_getElem? (i := 1) rfl))) (List.mem_cons_of_mem _ (List.mem_append_left _ (List.mem_of_getElem? (i := 2) rfl))) (gi_sub (fun w h => (List.mem_cons_of_mem _ (List.mem_append_right _ (List.mem_append_right _ (List.mem_append_right _ (List.mem_append_left _ h)))))) zg_k212_X11_isStretch)) rfl rfl rfl (by decide +kernel) ⟨Nat.le_of_ble_eq_true rfl, Nat.le_of_ble_eq_true rfl⟩ rfl rfl (Nat.le_of_ble_eq_true rfl) ⟨Nat.le_of_ble_eq_true rfl, Nat.le_of_ble_eq_true rfl⟩ dX11_odd_1 (fun v ty' w' hp hk' => ?_)
  rcases hp with ⟨rfl, rfl⟩ | ⟨c9328, c9329, c9330, c9331, rfl, rfl⟩
  · skip
    show GW κ 3 0 0 (wX q d I A) 4 [(0, .ref (q 0)), (1, .int z1), (2, .int z2)] [.int 0]
    refine g_if_eq (tgt := 16) (a := 0) hk dX11_odd_4 (by decide) rfl (fun _ => ?_) (fun z9 => absurd (show (0 : Int) = (0 : Int) from by decide) z9)
    refine g_iconst (v := (-1)) hk dX11_odd_16 (by decide) ?_
    exact g_iret hk hR rfl ⟨I, A, (show Md [28, 30, 31, 32, 33, 34, 38, 39, 43, 44] I I from Md.rf), (show Md [21, 22, 23, 30, 31] A A from Md.rf), hIv, (-1), rfl, rfl⟩ dX11_odd_17
  · skip
    show GW κ 3 0 0 (wX q d I A) 4 [(0, .ref (q 0)), (1, .int z1), (2, .int z2)] [.int 1]
    refine g_if_eq (tgt := 16) (a := 1) hk dX11_odd_4 (by decide) rfl (fun z9 => absurd z9 (show ¬ ((1 : Int) = (0 : Int)) from by decide)) (fun _ => ?_)
    refine g_iload_n hk dX11_odd_7 rfl ?_
    have b9333l := Int32.le_toInt z2
    have b9333h := Int32.toInt_lt z2
    refine g_if_lt (tgt := 16) (a := z2.toInt) hk dX11_odd_8 (by decide) rfl (fun c9334 => ?_) (fun c9334 => ?_)
    · skip
      refine g_iconst (v := (-1)) hk dX11_odd_16 (by decide) ?_
      exact g_iret hk hR rfl ⟨I, A, (show Md [28, 30, 31, 32, 33, 34, 38, 39, 43, 44] I I from Md.rf), (show Md [21, 22, 23, 30, 31] A A from Md.rf), hIv, (-1), rfl, rfl⟩ dX11_odd_17
    · skip
      refine g_iload_n hk dX11_odd_11 rfl ?_
      refine g_iconst (v := 1) hk dX11_odd_12 (by decide) ?_
      refine g_icmp_le (tgt := 18) (a := z2.toInt) (b := 1) hk dX11_odd_13 (by decide) rfl rfl (fun c9335 => ?_) (fun c9335 => ?_)
      · skip
        refine g_aload_n hk dX11_odd_18 rfl ?_
        refine gX_r0_9 hk hin11 (List.mem_cons_of_mem _ (List.mem_append_left _ (List.mem_of_getElem? (i := 3) rfl))) dX11_odd_19 ?_
        refine g_iload_n hk dX11_odd_22 rfl ?_
        refine g_callV (n := 1) hk (k305_X9_findOdd l D zt q d I A z1 hIv) (SP.same _) (fun _ h => h) (gi_V (List.mem_cons_of_mem _ (List.mem_append_left _ (List.mem_of_getElem? (i := 4) rfl))) (List.mem_cons_of_mem _ (List.mem_append_left _ (List.mem_of_getElem? (i := 5) rfl))) (List.mem_cons_of_mem _ (List.mem_append_left _ (List.mem_of_getElem? (i := 6) rfl))) (List.mem_cons_of_mem _ (List.mem_append_left _ (List.mem_of_getElem? (i := 7) rfl))) (gi_sub (fun w h => (List.mem_cons_of_mem _ (List.mem_append_right _ (List.mem_append_right _ (List.mem_append_right _ (List.mem_append_right _ (List.mem_append_left _ h))))))) zg_k305_X9_findOdd)) rfl rfl rfl (by decide +kernel) ⟨Nat.le_of_ble_eq_true rfl, Nat.le_of_ble_eq_true rfl⟩ 49 rfl rfl rfl rfl (Nat.le_of_ble_eq_true rfl) ⟨Nat.le_of_ble_eq_true rfl, Nat.le_of_ble_eq_true rfl⟩ dX11_odd_23 (fun v ty' w' hp hk' => ?_)
        obtain ⟨I9416, A9416, hI9416, hA9416, hV9416, rfl, rfl⟩ := hp
        show GW κ 3 0 0 (wX q d I9416 A9416) 26 [(0, .ref (q 0)), (1, .int z1), (2, .int z2)] []
        refine g_iload_n hk dX11_odd_26 rfl ?_
        refine g_if_ne (tgt := 40) (a := z2.toInt) hk dX11_odd_27 (by decide) rfl (fun c9417 => ?_) (fun c9417 => ?_)
        · skip
          refine g_aload_n hk dX11_odd_40 rfl ?_
          refine gX_r0_9 hk hin11 (List.mem_cons_of_mem _ (List.mem_append_left _ (List.mem_of_getElem? (i := 3) rfl))) dX11_odd_41 ?_
          refine gX_i44 (v := (I9416 44)) hk hin9 (List.mem_cons_of_mem _ (List.mem_append_left _ (List.mem_of_getElem? (i := 8) rfl))) dX11_odd_44 rfl ?_
          have b9418l := Int32.le_toInt (I9416 44)
          have b9418h := Int32.toInt_lt (I9416 44)
          exact g_iret hk hR rfl ⟨I9416, A9416, (show Md [28, 30, 31, 32, 33, 34, 38, 39, 43, 44] I I9416 from (Md.tr Md.rf hI9416 rfl)), (show Md [21, 22, 23, 30, 31] A A9416 from (Md.tr Md.rf hA9416 rfl)), hV9416, (I9416 44), rfl, rfl⟩ dX11_odd_47
        · skip
          refine g_aload_n hk dX11_odd_30 rfl ?_
          refine gX_r0_9 hk hin11 (List.mem_cons_of_mem _ (List.mem_append_left _ (List.mem_of_getElem? (i := 3) rfl))) dX11_odd_31 ?_
          refine gX_i43 (v := (I9416 43)) hk hin9 (List.mem_cons_of_mem _ (List.mem_append_left _ (List.mem_of_getElem? (i := 9) rfl))) dX11_odd_34 rfl ?_
          refine g_goto (tgt := 47) hk dX11_odd_37 (by decide) ?_
          have b9419l := Int32.le_toInt (I9416 43)
          have b9419h := Int32.toInt_lt (I9416 43)
          exact g_iret hk hR rfl ⟨I9416, A9416, (show Md [28, 30, 31, 32, 33, 34, 38, 39, 43, 44] I I9416 from (Md.tr Md.rf hI9416 rfl)), (show Md [21, 22, 23, 30, 31] A A9416 from (Md.tr Md.rf hA9416 rfl)), hV9416, (I9416 43), rfl, rfl⟩ dX11_odd_47
      · skip
        refine g_iconst (v := (-1)) hk dX11_odd_16 (by decide) ?_
        exact g_iret hk hR rfl ⟨I, A, (show Md [28, 30, 31, 32, 33, 34, 38, 39, 43, 44] I I from Md.rf), (show Md [21, 22, 23, 30, 31] A A from Md.rf), hIv, (-1), rfl, rfl⟩ dX11_odd_17
def wo_k307_X6_flatWindows : List Cond := [Cond.fieldLink RX6 19 "WarpDesk$Series" "size" "I", Cond.methodLink RX6 37 yX6_hasReading, Cond.instanceMethod yX6_hasReading, Cond.selects RX6 yX6_hasReading yX6_hasReading, Cond.initialized RX6, Cond.methodLink RX6 33 yX6_valueAt, Cond.instanceMethod yX6_valueAt, Cond.selects RX6 yX6_valueAt yX6_valueAt]
def wz_k307_X6_flatWindows : List Cond := .code yX6_flatWindows cX6_flatWindows 5 (some .int) :: (wo_k307_X6_flatWindows ++ (wsX60 ++ (wz_k188_X6_hasReading ++ (wz_k179_X6_valueAt ++ ([] : List Cond)))))
theorem zg_k307_X6_flatWindows : ∀ w ∈ wz_k307_X6_flatWindows, goodWord w = true := zg_cons rfl (zg_app (by decide +kernel) (zg_app zgU_wsX60 (zg_app zg_k188_X6_hasReading (zg_app zg_k179_X6_valueAt zg_nil))))
theorem zi_k307_X6_flatWindows : ∀ w ∈ wz_k307_X6_flatWindows, w ∈ lw_tbl := zi_cons zw_1312 (zi_app (zi_cons zw_282 (zi_cons zw_905 (zi_cons zw_840 (zi_cons zw_841 (zi_cons zw_109 (zi_cons zw_843 (zi_cons zw_807 (zi_cons zw_808 zi_nil)))))))) (zi_app inX6 (zi_app zi_k188_X6_hasReading (zi_app zi_k179_X6_valueAt zi_nil))))
set_option maxHeartbeats 4000000 in
set_option maxRecDepth 100000 in
theorem k307_X6_flatWindows (l : Launch) (D : va_G) (zt : Nat × Nat × Nat × (Nat → Nat) × (Nat → Nat)) (q : Nat → Nat) (d : Nat → ClassId) (I : Nat → Int32) (A : Nat → Nat → Int32) (z1 : Int32) (hIv : IvX I A) : GM l D zt (tyX d) yX6_flatWindows wz_k307_X6_flatWindows ({ frames := 2, cells := 0, slots := 0, locals := 42 } : Room) [.ref (q 13), .int z1] (wX q d I A) (fun v _ w' => ∃ y0 : Int32, v = some (.int y0) ∧ w' = wX q d I A) 0 0 := by
  refine GM.of (cc := cX6_flatWindows) (maxL := 5) (ret := (some .int)) (own := RX6) (lv := [(0, .ref (q 13)), (1, .int z1)]) (by decide) rfl rfl (Nat.le_of_ble_eq_true rfl) rfl (fun κ sz hk hR hN => ?_)
  have hin6 : ∀ w ∈ u_ws RX6 TX6 3, w ∈ wz_k307_X6_flatWindows := fun w h => (List.mem_cons_of_mem _ (List.mem_append_right _ (List.mem_append_left _ h)))
  refine g_iconst (v := 0) hk dX6_flatWindows_0 (by decide) ?_
  refine g_istore_n (lv' := [(2, .int 0), (0, .ref (q 13)), (1, .int z1)]) hk dX6_flatWindows_1 (by decide) rfl ?_
  refine g_iconst (v := 0) hk dX6_flatWindows_2 (by decide) ?_
  refine g_istore_n (lv' := [(3, .int 0), (2, .int 0), (0, .ref (q 13)), (1, .int z1)]) hk dX6_flatWindows_3 (by decide) rfl ?_
  refine g_iconst (v := 0) hk dX6_flatWindows_4 (by decide) ?_
  refine g_istore (lv' := [(4, .int 0), (3, .int 0), (2, .int 0), (0, .ref (q 13)), (1, .int z1)]) hk dX6_flatWindows_5 (by decide) rfl ?_
  have lp9588 : ∀ (n9589 : Nat) (x9423 : Int32) (x9424 : Int32) (x9425 : Int32), (0 ≤ x9423.toInt) → (x9423.toInt ≤ 160) → (161 - x9423.toInt < (n9589 : Int)) → (0 < n9589) → GW κ 5 0 0 (wX q d I A) 7 [(4, .int x9423), (3, .int x9424), (2, .int x9425), (0, .ref (q 13)), (1, .int z1)] [] := by
    intro n9589
    induction n9589 with
    | zero =>
      intro x9423 x9424 x9425 h9586 h9587 m9590 m9590z
      exact absurd m9590z (Nat.lt_irrefl 0)
    | succ n9589 ih =>
      intro x9423 x9424 x9425 h9586 h9587 m9590 m9590z
      refine g_iload hk dX6_flatWindows_7 rfl ?_
      refine g_aload_n hk dX6_flatWindows_9 rfl ?_
      refine gX_i18 (v := (I 18)) hk hin6 (List.mem_cons_of_mem _ (List.mem_append_left _ (List.mem_of_getElem? (i := 0) rfl))) dX6_flatWindows_10 rfl ?_
      have f9591 := IvX_f18 hIv
      refine g_icmp_ge (tgt := 73) (a := x9423.toInt) (b := (I 18).toInt) hk dX6_flatWindows_13 (by decide) rfl rfl (fun c9592 => ?_) (fun c9592 => ?_)
      · skip
        refine g_iload_n hk dX6_flatWindows_73 rfl ?_
        have b9593l := Int32.le_toInt x9425
        have b9593h := Int32.toInt_lt x9425
        exact g_iret hk hR rfl ⟨x9425, rfl, rfl⟩ dX6_flatWindows_74
      · skip
        refine g_aload_n hk dX6_flatWindows_16 rfl ?_
        refine g_iload hk dX6_flatWindows_17 rfl ?_
        refine g_callV (n := 1) hk (k188_X6_hasReading l D zt q d I A x9423 hIv) (SP.same _) (fun _ h => h) (gi_V (List.mem_cons_of_mem _ (List.mem_append_left _ (List.mem_of_getElem? (i := 1) rfl))) (List.mem_cons_of_mem _ (List.mem_append_left _ (List.mem_of_getElem? (i := 2) rfl))) (List.mem_cons_of_mem _ (List.mem_append_left _ (List.mem_of_getElem? (i := 3) rfl))) (List.mem_cons_of_mem _ (List.mem_append_left _ (List.mem_of_getElem? (i := 4) rfl))) (gi_sub (fun w h => (List.mem_cons_of_mem _ (List.mem_append_right _ (List.mem_append_right _ (List.mem_append_left _ h))))) zg_k188_X6_hasReading)) rfl rfl rfl (by decide +kernel) ⟨Nat.le_of_ble_eq_true rfl, Nat.le_of_ble_eq_true rfl⟩ 13 rfl rfl rfl rfl (Nat.le_of_ble_eq_true rfl) ⟨Nat.le_of_ble_eq_true rfl, Nat.le_of_ble_eq_true rfl⟩ dX6_flatWindows_19 (fun v ty' w' hp hk' => ?_)
        rcases hp with ⟨rfl, rfl⟩ | ⟨rfl, rfl⟩
        · skip
          show GW κ 5 0 0 (wX q d I A) 22 [(4, .int x9423), (3, .int x9424), (2, .int x9425), (0, .ref (q 13)), (1, .int z1)] [.int 0]
          refine g_if_ne (tgt := 30) (a := 0) hk dX6_flatWindows_22 (by decide) rfl (fun z9 => absurd z9 (show ¬ ((0 : Int) ≠ (0 : Int)) from by decide)) (fun _ => ?_)
          refine g_iconst (v := 0) hk dX6_flatWindows_25 (by decide) ?_
          refine g_istore_n (lv' := [(3, .int 0), (4, .int x9423), (2, .int x9425), (0, .ref (q 13)), (1, .int z1)]) hk dX6_flatWindows_26 (by decide) rfl ?_
          refine g_goto (tgt := 59) hk dX6_flatWindows_27 (by decide) ?_
          refine g_iload_n hk dX6_flatWindows_59 rfl ?_
          refine g_iload_n hk dX6_flatWindows_60 rfl ?_
          have b9596l := Int32.le_toInt z1
          have b9596h := Int32.toInt_lt z1
          refine g_icmp_lt (tgt := 67) (a := 0) (b := z1.toInt) hk dX6_flatWindows_61 (by decide) rfl rfl (fun c9597 => ?_) (fun c9597 => ?_)
          · skip
            obtain ⟨y9598, ey9598⟩ : ∃ y : Int32, y = x9423 + Int32.ofInt 1 := ⟨_, rfl⟩
            have hy9598 : y9598.toInt = x9423.toInt + 1 := i32_add ey9598 rfl (by decide) (by omega) (by omega)
            refine g_iinc (v := y9598) (lv' := [(4, .int y9598), (3, .int 0), (2, .int x9425), (0, .ref (q 13)), (1, .int z1)]) hk 1 dX6_flatWindows_67 rfl ey9598.symm (by decide) rfl ?_
            refine g_goto (tgt := 7) hk dX6_flatWindows_70 (by decide) ?_
            have k9599 : (0 : Int32).toInt = 0 := rfl
            exact g_lv (List.forall_mem_cons.mpr ⟨List.mem_of_getElem? (i := 0) rfl, (List.forall_mem_cons.mpr ⟨List.mem_of_getElem? (i := 1) rfl, (List.forall_mem_cons.mpr ⟨List.mem_of_getElem? (i := 2) rfl, (List.forall_mem_cons.mpr ⟨List.mem_of_getElem? (i := 3) rfl, (List.forall_mem_cons.mpr ⟨List.mem_of_getElem? (i := 4) rfl, (fun _ h => absurd h List.not_mem_nil)⟩)⟩)⟩)⟩)⟩) (ih y9598 0 x9425 (by omega) (by omega) (by omega) (by omega))
          · skip
            have b9600l := Int32.le_toInt x9425
            have b9600h := Int32.toInt_lt x9425
            obtain ⟨y9601, ey9601⟩ : ∃ y : Int32, y = x9425 + Int32.ofInt 1 := ⟨_, rfl⟩
            refine g_iinc (v := y9601) (lv' := [(2, .int y9601), (3, .int 0), (4, .int x9423), (0, .ref (q 13)), (1, .int z1)]) hk 2 dX6_flatWindows_64 rfl ey9601.symm (by decide) rfl ?_
            obtain ⟨y9602, ey9602⟩ : ∃ y : Int32, y = x9423 + Int32.ofInt 1 := ⟨_, rfl⟩
            have hy9602 : y9602.toInt = x9423.toInt + 1 := i32_add ey9602 rfl (by decide) (by omega) (by omega)
            refine g_iinc (v := y9602) (lv' := [(4, .int y9602), (2, .int y9601), (3, .int 0), (0, .ref (q 13)), (1, .int z1)]) hk 2 dX6_flatWindows_67 rfl ey9602.symm (by decide) rfl ?_
            refine g_goto (tgt := 7) hk dX6_flatWindows_70 (by decide) ?_
            have k9603 : (0 : Int32).toInt = 0 := rfl
            exact g_lv (List.forall_mem_cons.mpr ⟨List.mem_of_getElem? (i := 0) rfl, (List.forall_mem_cons.mpr ⟨List.mem_of_getElem? (i := 2) rfl, (List.forall_mem_cons.mpr ⟨List.mem_of_getElem? (i := 1) rfl, (List.forall_mem_cons.mpr ⟨List.mem_of_getElem? (i := 3) rfl, (List.forall_mem_cons.mpr ⟨List.mem_of_getElem? (i := 4) rfl, (fun _ h => absurd h List.not_mem_nil)⟩)⟩)⟩)⟩)⟩) (ih y9602 0 y9601 (by omega) (by omega) (by omega) (by omega))
        · skip
          show GW κ 5 0 0 (wX q d I A) 22 [(4, .int x9423), (3, .int x9424), (2, .int x9425), (0, .ref (q 13)), (1, .int z1)] [.int 1]
          refine g_if_ne (tgt := 30) (a := 1) hk dX6_flatWindows_22 (by decide) rfl (fun _ => ?_) (fun z9 => absurd (show (1 : Int) ≠ (0 : Int) from by decide) z9)
          refine g_iload_n hk dX6_flatWindows_30 rfl ?_
          have b9604l := Int32.le_toInt x9424
          have b9604h := Int32.toInt_lt x9424
          refine g_if_le (tgt := 57) (a := x9424.toInt) hk dX6_flatWindows_31 (by decide) rfl (fun c9605 => ?_) (fun c9605 => ?_)
          · skip
            refine g_iconst (v := 1) hk dX6_flatWindows_57 (by decide) ?_
            refine g_istore_n (lv' := [(3, .int 1), (4, .int x9423), (2, .int x9425), (0, .ref (q 13)), (1, .int z1)]) hk dX6_flatWindows_58 (by decide) rfl ?_
            refine g_iload_n hk dX6_flatWindows_59 rfl ?_
            refine g_iload_n hk dX6_flatWindows_60 rfl ?_
            have b9606l := Int32.le_toInt z1
            have b9606h := Int32.toInt_lt z1
            refine g_icmp_lt (tgt := 67) (a := 1) (b := z1.toInt) hk dX6_flatWindows_61 (by decide) rfl rfl (fun c9607 => ?_) (fun c9607 => ?_)
            · skip
              obtain ⟨y9608, ey9608⟩ : ∃ y : Int32, y = x9423 + Int32.ofInt 1 := ⟨_, rfl⟩
              have hy9608 : y9608.toInt = x9423.toInt + 1 := i32_add ey9608 rfl (by decide) (by omega) (by omega)
              refine g_iinc (v := y9608) (lv' := [(4, .int y9608), (3, .int 1), (2, .int x9425), (0, .ref (q 13)), (1, .int z1)]) hk 1 dX6_flatWindows_67 rfl ey9608.symm (by decide) rfl ?_
              refine g_goto (tgt := 7) hk dX6_flatWindows_70 (by decide) ?_
              have k9609 : (1 : Int32).toInt = 1 := rfl
              exact g_lv (List.forall_mem_cons.mpr ⟨List.mem_of_getElem? (i := 0) rfl, (List.forall_mem_cons.mpr ⟨List.mem_of_getElem? (i := 1) rfl, (List.forall_mem_cons.mpr ⟨List.mem_of_getElem? (i := 2) rfl, (List.forall_mem_cons.mpr ⟨List.mem_of_getElem? (i := 3) rfl, (List.forall_mem_cons.mpr ⟨List.mem_of_getElem? (i := 4) rfl, (fun _ h => absurd h List.not_mem_nil)⟩)⟩)⟩)⟩)⟩) (ih y9608 1 x9425 (by omega) (by omega) (by omega) (by omega))
            · skip
              have b9610l := Int32.le_toInt x9425
              have b9610h := Int32.toInt_lt x9425
              obtain ⟨y9611, ey9611⟩ : ∃ y : Int32, y = x9425 + Int32.ofInt 1 := ⟨_, rfl⟩
              refine g_iinc (v := y9611) (lv' := [(2, .int y9611), (3, .int 1), (4, .int x9423), (0, .ref (q 13)), (1, .int z1)]) hk 2 dX6_flatWindows_64 rfl ey9611.symm (by decide) rfl ?_
              obtain ⟨y9612, ey9612⟩ : ∃ y : Int32, y = x9423 + Int32.ofInt 1 := ⟨_, rfl⟩
              have hy9612 : y9612.toInt = x9423.toInt + 1 := i32_add ey9612 rfl (by decide) (by omega) (by omega)
              refine g_iinc (v := y9612) (lv' := [(4, .int y9612), (2, .int y9611), (3, .int 1), (0, .ref (q 13)), (1, .int z1)]) hk 2 dX6_flatWindows_67 rfl ey9612.symm (by decide) rfl ?_
              refine g_goto (tgt := 7) hk dX6_flatWindows_70 (by decide) ?_
              have k9613 : (1 : Int32).toInt = 1 := rfl
              exact g_lv (List.forall_mem_cons.mpr ⟨List.mem_of_getElem? (i := 0) rfl, (List.forall_mem_cons.mpr ⟨List.mem_of_getElem? (i := 2) rfl, (List.forall_mem_cons.mpr ⟨List.mem_of_getElem? (i := 1) rfl, (List.forall_mem_cons.mpr ⟨List.mem_of_getElem? (i := 3) rfl, (List.forall_mem_cons.mpr ⟨List.mem_of_getElem? (i := 4) rfl, (fun _ h => absurd h List.not_mem_nil)⟩)⟩)⟩)⟩)⟩) (ih y9612 1 y9611 (by omega) (by omega) (by omega) (by omega))
          · skip
            refine g_aload_n hk dX6_flatWindows_34 rfl ?_
            refine g_iload hk dX6_flatWindows_35 rfl ?_
            refine g_callV (n := 1) hk (k179_X6_valueAt l D zt q d I A x9423 hIv) (SP.same _) (fun _ h => h) (gi_V (List.mem_cons_of_mem _ (List.mem_append_left _ (List.mem_of_getElem? (i := 5) rfl))) (List.mem_cons_of_mem _ (List.mem_append_left _ (List.mem_of_getElem? (i := 6) rfl))) (List.mem_cons_of_mem _ (List.mem_append_left _ (List.mem_of_getElem? (i := 7) rfl))) (List.mem_cons_of_mem _ (List.mem_append_left _ (List.mem_of_getElem? (i := 4) rfl))) (gi_sub (fun w h => (List.mem_cons_of_mem _ (List.mem_append_right _ (List.mem_append_right _ (List.mem_append_right _ (List.mem_append_left _ h)))))) zg_k179_X6_valueAt)) rfl rfl rfl (by decide +kernel) ⟨Nat.le_of_ble_eq_true rfl, Nat.le_of_ble_eq_true rfl⟩ 13 rfl rfl rfl rfl (Nat.le_of_ble_eq_true rfl) ⟨Nat.le_of_ble_eq_true rfl, Nat.le_of_ble_eq_true rfl⟩ dX6_flatWindows_37 (fun v ty' w' hp hk' => ?_)
            obtain ⟨y9614, rfl, rfl⟩ := hp
            show GW κ 5 0 0 (wX q d I A) 40 [(4, .int x9423), (3, .int x9424), (2, .int x9425), (0, .ref (q 13)), (1, .int z1)] [.int y9614]
            refine g_aload_n hk dX6_flatWindows_40 rfl ?_
            refine g_iload hk dX6_flatWindows_41 rfl ?_
            refine g_iconst (v := 1) hk dX6_flatWindows_43 (by decide) ?_
            refine g_isub hk dX6_flatWindows_44 ?_
            refine g_topi (fun y9615 ey9615 => ?_)
            have hy9615 : y9615.toInt = x9423.toInt - 1 := i32_sub ey9615 rfl rfl (by omega) (by omega)
            refine g_callV (n := 1) hk (k179_X6_valueAt l D zt q d I A y9615 hIv) (SP.same _) (fun _ h => h) (gi_V (List.mem_cons_of_mem _ (List.mem_append_left _ (List.mem_of_getElem? (i := 5) rfl))) (List.mem_cons_of_mem _ (List.mem_append_left _ (List.mem_of_getElem? (i := 6) rfl))) (List.mem_cons_of_mem _ (List.mem_append_left _ (List.mem_of_getElem? (i := 7) rfl))) (List.mem_cons_of_mem _ (List.mem_append_left _ (List.mem_of_getElem? (i := 4) rfl))) (gi_sub (fun w h => (List.mem_cons_of_mem _ (List.mem_append_right _ (List.mem_append_right _ (List.mem_append_right _ (List.mem_append_left _ h)))))) zg_k179_X6_valueAt)) rfl rfl rfl (by decide +kernel) ⟨Nat.le_of_ble_eq_true rfl, Nat.le_of_ble_eq_true rfl⟩ 13 rfl rfl rfl rfl (Nat.le_of_ble_eq_true rfl) ⟨Nat.le_of_ble_eq_true rfl, Nat.le_of_ble_eq_true rfl⟩ dX6_flatWindows_45 (fun v ty' w' hp hk' => ?_)
            obtain ⟨y9616, rfl, rfl⟩ := hp
            show GW κ 5 0 0 (wX q d I A) 48 [(4, .int x9423), (3, .int x9424), (2, .int x9425), (0, .ref (q 13)), (1, .int z1)] [.int y9616, .int y9614]
            have b9617l := Int32.le_toInt y9614
            have b9617h := Int32.toInt_lt y9614
            have b9618l := Int32.le_toInt y9616
            have b9618h := Int32.toInt_lt y9616
            refine g_icmp_ne (tgt := 57) (a := y9614.toInt) (b := y9616.toInt) hk dX6_flatWindows_48 (by decide) rfl rfl (fun c9619 => ?_) (fun c9619 => ?_)
            · skip
              refine g_iconst (v := 1) hk dX6_flatWindows_57 (by decide) ?_
              refine g_istore_n (lv' := [(3, .int 1), (4, .int x9423), (2, .int x9425), (0, .ref (q 13)), (1, .int z1)]) hk dX6_flatWindows_58 (by decide) rfl ?_
              refine g_iload_n hk dX6_flatWindows_59 rfl ?_
              refine g_iload_n hk dX6_flatWindows_60 rfl ?_
              have b9620l := Int32.le_toInt z1
              have b9620h := Int32.toInt_lt z1
              refine g_icmp_lt (tgt := 67) (a := 1) (b := z1.toInt) hk dX6_flatWindows_61 (by decide) rfl rfl (fun c9621 => ?_) (fun c9621 => ?_)
              · skip
                obtain ⟨y9622, ey9622⟩ : ∃ y : Int32, y = x9423 + Int32.ofInt 1 := ⟨_, rfl⟩
                have hy9622 : y9622.toInt = x9423.toInt + 1 := i32_add ey9622 rfl (by decide) (by omega) (by omega)
                refine g_iinc (v := y9622) (lv' := [(4, .int y9622), (3, .int 1), (2, .int x9425), (0, .ref (q 13)), (1, .int z1)]) hk 1 dX6_flatWindows_67 rfl ey9622.symm (by decide) rfl ?_
                refine g_goto (tgt := 7) hk dX6_flatWindows_70 (by decide) ?_
                have k9623 : (1 : Int32).toInt = 1 := rfl
                exact g_lv (List.forall_mem_cons.mpr ⟨List.mem_of_getElem? (i := 0) rfl, (List.forall_mem_cons.mpr ⟨List.mem_of_getElem? (i := 1) rfl, (List.forall_mem_cons.mpr ⟨List.mem_of_getElem? (i := 2) rfl, (List.forall_mem_cons.mpr ⟨List.mem_of_getElem? (i := 3) rfl, (List.forall_mem_cons.mpr ⟨List.mem_of_getElem? (i := 4) rfl, (fun _ h => absurd h List.not_mem_nil)⟩)⟩)⟩)⟩)⟩) (ih y9622 1 x9425 (by omega) (by omega) (by omega) (by omega))
              · skip
                have b9624l := Int32.le_toInt x9425
                have b9624h := Int32.toInt_lt x9425
                obtain ⟨y9625, ey9625⟩ : ∃ y : Int32, y = x9425 + Int32.ofInt 1 := ⟨_, rfl⟩
                refine g_iinc (v := y9625) (lv' := [(2, .int y9625), (3, .int 1), (4, .int x9423), (0, .ref (q 13)), (1, .int z1)]) hk 2 dX6_flatWindows_64 rfl ey9625.symm (by decide) rfl ?_
                obtain ⟨y9626, ey9626⟩ : ∃ y : Int32, y = x9423 + Int32.ofInt 1 := ⟨_, rfl⟩
                have hy9626 : y9626.toInt = x9423.toInt + 1 := i32_add ey9626 rfl (by decide) (by omega) (by omega)
                refine g_iinc (v := y9626) (lv' := [(4, .int y9626), (2, .int y9625), (3, .int 1), (0, .ref (q 13)), (1, .int z1)]) hk 2 dX6_flatWindows_67 rfl ey9626.symm (by decide) rfl ?_
                refine g_goto (tgt := 7) hk dX6_flatWindows_70 (by decide) ?_
                have k9627 : (1 : Int32).toInt = 1 := rfl
                exact g_lv (List.forall_mem_cons.mpr ⟨List.mem_of_getElem? (i := 0) rfl, (List.forall_mem_cons.mpr ⟨List.mem_of_getElem? (i := 2) rfl, (List.forall_mem_cons.mpr ⟨List.mem_of_getElem? (i := 1) rfl, (List.forall_mem_cons.mpr ⟨List.mem_of_getElem? (i := 3) rfl, (List.forall_mem_cons.mpr ⟨List.mem_of_getElem? (i := 4) rfl, (fun _ h => absurd h List.not_mem_nil)⟩)⟩)⟩)⟩)⟩) (ih y9626 1 y9625 (by omega) (by omega) (by omega) (by omega))
            · skip
              obtain ⟨y9628, ey9628⟩ : ∃ y : Int32, y = x9424 + Int32.ofInt 1 := ⟨_, rfl⟩
              refine g_iinc (v := y9628) (lv' := [(3, .int y9628), (4, .int x9423), (2, .int x9425), (0, .ref (q 13)), (1, .int z1)]) hk 1 dX6_flatWindows_51 rfl ey9628.symm (by decide) rfl ?_
              refine g_goto (tgt := 59) hk dX6_flatWindows_54 (by decide) ?_
              refine g_iload_n hk dX6_flatWindows_59 rfl ?_
              refine g_iload_n hk dX6_flatWindows_60 rfl ?_
              have b9629l := Int32.le_toInt y9628
              have b9629h := Int32.toInt_lt y9628
              have b9630l := Int32.le_toInt z1
              have b9630h := Int32.toInt_lt z1
              refine g_icmp_lt (tgt := 67) (a := y9628.toInt) (b := z1.toInt) hk dX6_flatWindows_61 (by decide) rfl rfl (fun c9631 => ?_) (fun c9631 => ?_)
              · skip
                obtain ⟨y9632, ey9632⟩ : ∃ y : Int32, y = x9423 + Int32.ofInt 1 := ⟨_, rfl⟩
                have hy9632 : y9632.toInt = x9423.toInt + 1 := i32_add ey9632 rfl (by decide) (by omega) (by omega)
                refine g_iinc (v := y9632) (lv' := [(4, .int y9632), (3, .int y9628), (2, .int x9425), (0, .ref (q 13)), (1, .int z1)]) hk 1 dX6_flatWindows_67 rfl ey9632.symm (by decide) rfl ?_
                refine g_goto (tgt := 7) hk dX6_flatWindows_70 (by decide) ?_
                exact g_lv (List.forall_mem_cons.mpr ⟨List.mem_of_getElem? (i := 0) rfl, (List.forall_mem_cons.mpr ⟨List.mem_of_getElem? (i := 1) rfl, (List.forall_mem_cons.mpr ⟨List.mem_of_getElem? (i := 2) rfl, (List.forall_mem_cons.mpr ⟨List.mem_of_getElem? (i := 3) rfl, (List.forall_mem_cons.mpr ⟨List.mem_of_getElem? (i := 4) rfl, (fun _ h => absurd h List.not_mem_nil)⟩)⟩)⟩)⟩)⟩) (ih y9632 y9628 x9425 (by omega) (by omega) (by omega) (by omega))
              · skip
                have b9633l := Int32.le_toInt x9425
                have b9633h := Int32.toInt_lt x9425
                obtain ⟨y9634, ey9634⟩ : ∃ y : Int32, y = x9425 + Int32.ofInt 1 := ⟨_, rfl⟩
                refine g_iinc (v := y9634) (lv' := [(2, .int y9634), (3, .int y9628), (4, .int x9423), (0, .ref (q 13)), (1, .int z1)]) hk 2 dX6_flatWindows_64 rfl ey9634.symm (by decide) rfl ?_
                obtain ⟨y9635, ey9635⟩ : ∃ y : Int32, y = x9423 + Int32.ofInt 1 := ⟨_, rfl⟩
                have hy9635 : y9635.toInt = x9423.toInt + 1 := i32_add ey9635 rfl (by decide) (by omega) (by omega)
                refine g_iinc (v := y9635) (lv' := [(4, .int y9635), (2, .int y9634), (3, .int y9628), (0, .ref (q 13)), (1, .int z1)]) hk 2 dX6_flatWindows_67 rfl ey9635.symm (by decide) rfl ?_
                refine g_goto (tgt := 7) hk dX6_flatWindows_70 (by decide) ?_
                exact g_lv (List.forall_mem_cons.mpr ⟨List.mem_of_getElem? (i := 0) rfl, (List.forall_mem_cons.mpr ⟨List.mem_of_getElem? (i := 2) rfl, (List.forall_mem_cons.mpr ⟨List.mem_of_getElem? (i := 1) rfl, (List.forall_mem_cons.mpr ⟨List.mem_of_getElem? (i := 3) rfl, (List.forall_mem_cons.mpr ⟨List.mem_of_getElem? (i := 4) rfl, (fun _ h => absurd h List.not_mem_nil)⟩)⟩)⟩)⟩)⟩) (ih y9635 y9628 y9634 (by omega) (by omega) (by omega) (by omega))
  have k9637 : (0 : Int32).toInt = 0 := rfl
  obtain ⟨n9636, n9636a, n9636b⟩ : ∃ n : Nat, 161 - 0 < (n : Int) ∧ 0 < n := ⟨((161 - 0 : Int)).toNat + 1, by omega, by omega⟩
  exact lp9588 n9636 0 0 0 (by omega) (by omega) n9636a n9636b
def wo_k306_X11_flat : List Cond := [Cond.fieldLink RX11 28 "WarpDesk" "series" "LWarpDesk$Series;", Cond.methodLink RX11 353 yX6_flatWindows, Cond.instanceMethod yX6_flatWindows, Cond.selects RX6 yX6_flatWindows yX6_flatWindows, Cond.initialized RX6]
def wz_k306_X11_flat : List Cond := .code yX11_flat cX11_flat 2 (some .int) :: (wo_k306_X11_flat ++ (wsX110 ++ (wz_k307_X6_flatWindows ++ ([] : List Cond))))
theorem zg_k306_X11_flat : ∀ w ∈ wz_k306_X11_flat, goodWord w = true := zg_cons rfl (zg_app (by decide +kernel) (zg_app zgU_wsX110 (zg_app zg_k307_X6_flatWindows zg_nil)))
theorem zi_k306_X11_flat : ∀ w ∈ wz_k306_X11_flat, w ∈ lw_tbl := zi_cons zw_1308 (zi_app (zi_cons zw_489 (zi_cons zw_1309 (zi_cons zw_1310 (zi_cons zw_1311 (zi_cons zw_109 zi_nil))))) (zi_app inX11 (zi_app zi_k307_X6_flatWindows zi_nil)))
set_option maxHeartbeats 4000000 in
set_option maxRecDepth 100000 in
theorem k306_X11_flat (l : Launch) (D : va_G) (zt : Nat × Nat × Nat × (Nat → Nat) × (Nat → Nat)) (q : Nat → Nat) (d : Nat → ClassId) (I : Nat → Int32) (A : Nat → Nat → Int32) (z1 : Int32) (hIv : IvX I A) : GM l D zt (tyX d) yX11_flat wz_k306_X11_flat ({ frames := 3, cells := 0, slots := 0, locals := 66 } : Room) [.ref (q 0), .int z1] (wX q d I A) (fun v _ w' => ∃ y0 : Int32, v = some (.int y0) ∧ w' = wX q d I A) 0 0 := by
  refine GM.of (cc := cX11_flat) (maxL := 2) (ret := (some .int)) (own := RX11) (lv := [(0, .ref (q 0)), (1, .int z1)]) (by decide) rfl rfl (Nat.le_of_ble_eq_true rfl) rfl (fun κ sz hk hR hN => ?_)
  have hin11 : ∀ w ∈ u_ws RX11 TX11 10, w ∈ wz_k306_X11_flat := fun w h => (List.mem_cons_of_mem _ (List.mem_append_right _ (List.mem_append_left _ h)))
  refine g_iload_n hk dX11_flat_0 rfl ?_
  refine g_iconst (v := 1) hk dX11_flat_1 (by decide) ?_
  have b9420l := Int32.le_toInt z1
  have b9420h := Int32.toInt_lt z1
  refine g_icmp_lt (tgt := 12) (a := z1.toInt) (b := 1) hk dX11_flat_2 (by decide) rfl rfl (fun c9421 => ?_) (fun c9421 => ?_)
  · skip
    refine g_iconst (v := (-1)) hk dX11_flat_12 (by decide) ?_
    refine g_goto (tgt := 24) hk dX11_flat_13 (by decide) ?_
    exact g_iret hk hR rfl ⟨(-1), rfl, rfl⟩ dX11_flat_24
  · skip
    refine g_iload_n hk dX11_flat_5 rfl ?_
    refine g_sipush (v := 160) hk dX11_flat_6 (by decide) ?_
    refine g_icmp_le (tgt := 16) (a := z1.toInt) (b := 160) hk dX11_flat_9 (by decide) rfl rfl (fun c9422 => ?_) (fun c9422 => ?_)
    · skip
      refine g_aload_n hk dX11_flat_16 rfl ?_
      refine gX_r0_2 hk hin11 (List.mem_cons_of_mem _ (List.mem_append_left _ (List.mem_of_getElem? (i := 0) rfl))) dX11_flat_17 ?_
      refine g_iload_n hk dX11_flat_20 rfl ?_
      refine g_callV (n := 1) hk (k307_X6_flatWindows l D zt q d I A z1 hIv) (SP.same _) (fun _ h => h) (gi_V (List.mem_cons_of_mem _ (List.mem_append_left _ (List.mem_of_getElem? (i := 1) rfl))) (List.mem_cons_of_mem _ (List.mem_append_left _ (List.mem_of_getElem? (i := 2) rfl))) (List.mem_cons_of_mem _ (List.mem_append_left _ (List.mem_of_getElem? (i := 3) rfl))) (List.mem_cons_of_mem _ (List.mem_append_left _ (List.mem_of_getElem? (i := 4) rfl))) (gi_sub (fun w h => (List.mem_cons_of_mem _ (List.mem_append_right _ (List.mem_append_right _ (List.mem_append_left _ h))))) zg_k307_X6_flatWindows)) rfl rfl rfl (by decide +kernel) ⟨Nat.le_of_ble_eq_true rfl, Nat.le_of_ble_eq_true rfl⟩ 13 rfl rfl rfl rfl (Nat.le_of_ble_eq_true rfl) ⟨Nat.le_of_ble_eq_true rfl, Nat.le_of_ble_eq_true rfl⟩ dX11_flat_21 (fun v ty' w' hp hk' => ?_)
      obtain ⟨y9638, rfl, rfl⟩ := hp
      show GW κ 2 0 0 (wX q d I A) 24 [(0, .ref (q 0)), (1, .int z1)] [.int y9638]
      have b9639l := Int32.le_toInt y9638
      have b9639h := Int32.toInt_lt y9638
      exact g_iret hk hR rfl ⟨y9638, rfl, rfl⟩ dX11_flat_24
    · skip
      refine g_iconst (v := (-1)) hk dX11_flat_12 (by decide) ?_
      refine g_goto (tgt := 24) hk dX11_flat_13 (by decide) ?_
      exact g_iret hk hR rfl ⟨(-1), rfl, rfl⟩ dX11_flat_24
def wo_k310_X6_runFrom : List Cond := [Cond.fieldLink RX6 19 "WarpDesk$Series" "size" "I", Cond.methodLink RX6 37 yX6_hasReading, Cond.instanceMethod yX6_hasReading, Cond.selects RX6 yX6_hasReading yX6_hasReading, Cond.initialized RX6]
def wz_k310_X6_runFrom : List Cond := .code yX6_runFrom cX6_runFrom 4 (some .int) :: (wo_k310_X6_runFrom ++ (wsX60 ++ (wz_k188_X6_hasReading ++ ([] : List Cond))))
theorem zg_k310_X6_runFrom : ∀ w ∈ wz_k310_X6_runFrom, goodWord w = true := zg_cons rfl (zg_app (by decide +kernel) (zg_app zgU_wsX60 (zg_app zg_k188_X6_hasReading zg_nil)))
theorem zi_k310_X6_runFrom : ∀ w ∈ wz_k310_X6_runFrom, w ∈ lw_tbl := zi_cons zw_1324 (zi_app (zi_cons zw_282 (zi_cons zw_905 (zi_cons zw_840 (zi_cons zw_841 (zi_cons zw_109 zi_nil))))) (zi_app inX6 (zi_app zi_k188_X6_hasReading zi_nil)))
set_option maxHeartbeats 4000000 in
set_option maxRecDepth 100000 in
theorem k310_X6_runFrom (l : Launch) (D : va_G) (zt : Nat × Nat × Nat × (Nat → Nat) × (Nat → Nat)) (q : Nat → Nat) (d : Nat → ClassId) (I : Nat → Int32) (A : Nat → Nat → Int32) (z1 : Int32) (hIv : IvX I A) : GM l D zt (tyX d) yX6_runFrom wz_k310_X6_runFrom ({ frames := 2, cells := 0, slots := 0, locals := 42 } : Room) [.ref (q 13), .int z1] (wX q d I A) (fun v _ w' => ∃ y0 : Int32, v = some (.int y0) ∧ w' = wX q d I A) 0 0 := by
  refine GM.of (cc := cX6_runFrom) (maxL := 4) (ret := (some .int)) (own := RX6) (lv := [(0, .ref (q 13)), (1, .int z1)]) (by decide) rfl rfl (Nat.le_of_ble_eq_true rfl) rfl (fun κ sz hk hR hN => ?_)
  have hin6 : ∀ w ∈ u_ws RX6 TX6 3, w ∈ wz_k310_X6_runFrom := fun w h => (List.mem_cons_of_mem _ (List.mem_append_right _ (List.mem_append_left _ h)))
  refine g_iconst (v := 0) hk dX6_runFrom_0 (by decide) ?_
  refine g_istore_n (lv' := [(2, .int 0), (0, .ref (q 13)), (1, .int z1)]) hk dX6_runFrom_1 (by decide) rfl ?_
  refine g_iload_n hk dX6_runFrom_2 rfl ?_
  refine g_istore_n (lv' := [(3, .int z1), (2, .int 0), (0, .ref (q 13)), (1, .int z1)]) hk dX6_runFrom_3 (by decide) rfl ?_
  have lp9684 : ∀ (n9685 : Nat) (x9650 : Int32) (x9651 : Int32), (161 - x9650.toInt < (n9685 : Int)) → (0 < n9685) → GW κ 4 0 0 (wX q d I A) 4 [(3, .int x9650), (2, .int x9651), (0, .ref (q 13)), (1, .int z1)] [] := by
    intro n9685
    induction n9685 with
    | zero =>
      intro x9650 x9651 m9686 m9686z
      exact absurd m9686z (Nat.lt_irrefl 0)
    | succ n9685 ih =>
      intro x9650 x9651 m9686 m9686z
      refine g_iload_n hk dX6_runFrom_4 rfl ?_
      refine g_aload_n hk dX6_runFrom_5 rfl ?_
      refine gX_i18 (v := (I 18)) hk hin6 (List.mem_cons_of_mem _ (List.mem_append_left _ (List.mem_of_getElem? (i := 0) rfl))) dX6_runFrom_6 rfl ?_
      have f9687 := IvX_f18 hIv
      have b9688l := Int32.le_toInt x9650
      have b9688h := Int32.toInt_lt x9650
      refine g_icmp_ge (tgt := 29) (a := x9650.toInt) (b := (I 18).toInt) hk dX6_runFrom_9 (by decide) rfl rfl (fun c9689 => ?_) (fun c9689 => ?_)
      · skip
        refine g_iload_n hk dX6_runFrom_29 rfl ?_
        have b9690l := Int32.le_toInt x9651
        have b9690h := Int32.toInt_lt x9651
        exact g_iret hk hR rfl ⟨x9651, rfl, rfl⟩ dX6_runFrom_30
      · skip
        refine g_aload_n hk dX6_runFrom_12 rfl ?_
        refine g_iload_n hk dX6_runFrom_13 rfl ?_
        refine g_callV (n := 1) hk (k188_X6_hasReading l D zt q d I A x9650 hIv) (SP.same _) (fun _ h => h) (gi_V (List.mem_cons_of_mem _ (List.mem_append_left _ (List.mem_of_getElem? (i := 1) rfl))) (List.mem_cons_of_mem _ (List.mem_append_left _ (List.mem_of_getElem? (i := 2) rfl))) (List.mem_cons_of_mem _ (List.mem_append_left _ (List.mem_of_getElem? (i := 3) rfl))) (List.mem_cons_of_mem _ (List.mem_append_left _ (List.mem_of_getElem? (i := 4) rfl))) (gi_sub (fun w h => (List.mem_cons_of_mem _ (List.mem_append_right _ (List.mem_append_right _ (List.mem_append_left _ h))))) zg_k188_X6_hasReading)) rfl rfl rfl (by decide +kernel) ⟨Nat.le_of_ble_eq_true rfl, Nat.le_of_ble_eq_true rfl⟩ 13 rfl rfl rfl rfl (Nat.le_of_ble_eq_true rfl) ⟨Nat.le_of_ble_eq_true rfl, Nat.le_of_ble_eq_true rfl⟩ dX6_runFrom_14 (fun v ty' w' hp hk' => ?_)
        rcases hp with ⟨rfl, rfl⟩ | ⟨rfl, rfl⟩
        · skip
          show GW κ 4 0 0 (wX q d I A) 17 [(3, .int x9650), (2, .int x9651), (0, .ref (q 13)), (1, .int z1)] [.int 0]
          refine g_if_eq (tgt := 29) (a := 0) hk dX6_runFrom_17 (by decide) rfl (fun _ => ?_) (fun z9 => absurd (show (0 : Int) = (0 : Int) from by decide) z9)
          refine g_iload_n hk dX6_runFrom_29 rfl ?_
          have b9693l := Int32.le_toInt x9651
          have b9693h := Int32.toInt_lt x9651
          exact g_iret hk hR rfl ⟨x9651, rfl, rfl⟩ dX6_runFrom_30
        · skip
          show GW κ 4 0 0 (wX q d I A) 17 [(3, .int x9650), (2, .int x9651), (0, .ref (q 13)), (1, .int z1)] [.int 1]
          refine g_if_eq (tgt := 29) (a := 1) hk dX6_runFrom_17 (by decide) rfl (fun z9 => absurd z9 (show ¬ ((1 : Int) = (0 : Int)) from by decide)) (fun _ => ?_)
          have b9694l := Int32.le_toInt x9651
          have b9694h := Int32.toInt_lt x9651
          obtain ⟨y9695, ey9695⟩ : ∃ y : Int32, y = x9651 + Int32.ofInt 1 := ⟨_, rfl⟩
          refine g_iinc (v := y9695) (lv' := [(2, .int y9695), (3, .int x9650), (0, .ref (q 13)), (1, .int z1)]) hk 1 dX6_runFrom_20 rfl ey9695.symm (by decide) rfl ?_
          obtain ⟨y9696, ey9696⟩ : ∃ y : Int32, y = x9650 + Int32.ofInt 1 := ⟨_, rfl⟩
          have hy9696 : y9696.toInt = x9650.toInt + 1 := i32_add ey9696 rfl (by decide) (by omega) (by omega)
          refine g_iinc (v := y9696) (lv' := [(3, .int y9696), (2, .int y9695), (0, .ref (q 13)), (1, .int z1)]) hk 1 dX6_runFrom_23 rfl ey9696.symm (by decide) rfl ?_
          refine g_goto (tgt := 4) hk dX6_runFrom_26 (by decide) ?_
          exact g_lv (List.forall_mem_cons.mpr ⟨List.mem_of_getElem? (i := 0) rfl, (List.forall_mem_cons.mpr ⟨List.mem_of_getElem? (i := 1) rfl, (List.forall_mem_cons.mpr ⟨List.mem_of_getElem? (i := 2) rfl, (List.forall_mem_cons.mpr ⟨List.mem_of_getElem? (i := 3) rfl, (fun _ h => absurd h List.not_mem_nil)⟩)⟩)⟩)⟩) (ih y9696 y9695 (by omega) (by omega))
  have k9698 : (0 : Int32).toInt = 0 := rfl
  have b9699l := Int32.le_toInt z1
  have b9699h := Int32.toInt_lt z1
  obtain ⟨n9697, n9697a, n9697b⟩ : ∃ n : Nat, 161 - z1.toInt < (n : Int) ∧ 0 < n := ⟨((161 - z1.toInt : Int)).toNat + 1, by omega, by omega⟩
  exact lp9684 n9697 z1 0 n9697a n9697b
def wo_k309_X6_longestRunFirst : List Cond := [Cond.fieldLink RX6 19 "WarpDesk$Series" "size" "I", Cond.methodLink RX6 46 yX6_runFrom, Cond.instanceMethod yX6_runFrom, Cond.selects RX6 yX6_runFrom yX6_runFrom, Cond.initialized RX6]
def wz_k309_X6_longestRunFirst : List Cond := .code yX6_longestRunFirst cX6_longestRunFirst 5 (some .int) :: (wo_k309_X6_longestRunFirst ++ (wsX60 ++ (wz_k310_X6_runFrom ++ ([] : List Cond))))
theorem zg_k309_X6_longestRunFirst : ∀ w ∈ wz_k309_X6_longestRunFirst, goodWord w = true := zg_cons rfl (zg_app (by decide +kernel) (zg_app zgU_wsX60 (zg_app zg_k310_X6_runFrom zg_nil)))
theorem zi_k309_X6_longestRunFirst : ∀ w ∈ wz_k309_X6_longestRunFirst, w ∈ lw_tbl := zi_cons zw_1320 (zi_app (zi_cons zw_282 (zi_cons zw_1321 (zi_cons zw_1322 (zi_cons zw_1323 (zi_cons zw_109 zi_nil))))) (zi_app inX6 (zi_app zi_k310_X6_runFrom zi_nil)))
set_option maxHeartbeats 4000000 in
set_option maxRecDepth 100000 in
theorem k309_X6_longestRunFirst (l : Launch) (D : va_G) (zt : Nat × Nat × Nat × (Nat → Nat) × (Nat → Nat)) (q : Nat → Nat) (d : Nat → ClassId) (I : Nat → Int32) (A : Nat → Nat → Int32) (hIv : IvX I A) : GM l D zt (tyX d) yX6_longestRunFirst wz_k309_X6_longestRunFirst ({ frames := 3, cells := 0, slots := 0, locals := 65 } : Room) [.ref (q 13)] (wX q d I A) (fun v _ w' => ∃ y0 : Int32, ((-2) ≤ y0.toInt) ∧ (y0.toInt ≤ 159) ∧ v = some (.int y0) ∧ w' = wX q d I A) 0 0 := by
  refine GM.of (cc := cX6_longestRunFirst) (maxL := 5) (ret := (some .int)) (own := RX6) (lv := [(0, .ref (q 13))]) (by decide) rfl rfl (Nat.le_of_ble_eq_true rfl) rfl (fun κ sz hk hR hN => ?_)
  have hin6 : ∀ w ∈ u_ws RX6 TX6 3, w ∈ wz_k309_X6_longestRunFirst := fun w h => (List.mem_cons_of_mem _ (List.mem_append_right _ (List.mem_append_left _ h)))
  refine g_bipush (v := (-2)) hk dX6_longestRunFirst_0 (by decide) ?_
  refine g_istore_n (lv' := [(1, .int (-2)), (0, .ref (q 13))]) hk dX6_longestRunFirst_2 (by decide) rfl ?_
  refine g_iconst (v := 0) hk dX6_longestRunFirst_3 (by decide) ?_
  refine g_istore_n (lv' := [(2, .int 0), (1, .int (-2)), (0, .ref (q 13))]) hk dX6_longestRunFirst_4 (by decide) rfl ?_
  refine g_iconst (v := 0) hk dX6_longestRunFirst_5 (by decide) ?_
  refine g_istore_n (lv' := [(3, .int 0), (2, .int 0), (1, .int (-2)), (0, .ref (q 13))]) hk dX6_longestRunFirst_6 (by decide) rfl ?_
  have lp9743 : ∀ (n9744 : Nat) (x9643 : Int32) (x9644 : Int32) (x9645 : Int32), (0 ≤ x9643.toInt) → (x9643.toInt ≤ 160) → (0 ≤ x9644.toInt) → ((-2) ≤ x9645.toInt) → (x9645.toInt ≤ 159) → (161 - x9643.toInt < (n9744 : Int)) → (0 < n9744) → GW κ 5 0 0 (wX q d I A) 7 [(3, .int x9643), (2, .int x9644), (1, .int x9645), (0, .ref (q 13))] [] := by
    intro n9744
    induction n9744 with
    | zero =>
      intro x9643 x9644 x9645 h9738 h9739 h9740 h9741 h9742 m9745 m9745z
      exact absurd m9745z (Nat.lt_irrefl 0)
    | succ n9744 ih =>
      intro x9643 x9644 x9645 h9738 h9739 h9740 h9741 h9742 m9745 m9745z
      refine g_iload_n hk dX6_longestRunFirst_7 rfl ?_
      refine g_aload_n hk dX6_longestRunFirst_8 rfl ?_
      refine gX_i18 (v := (I 18)) hk hin6 (List.mem_cons_of_mem _ (List.mem_append_left _ (List.mem_of_getElem? (i := 0) rfl))) dX6_longestRunFirst_9 rfl ?_
      have f9746 := IvX_f18 hIv
      refine g_icmp_ge (tgt := 39) (a := x9643.toInt) (b := (I 18).toInt) hk dX6_longestRunFirst_12 (by decide) rfl rfl (fun c9747 => ?_) (fun c9747 => ?_)
      · skip
        refine g_iload_n hk dX6_longestRunFirst_39 rfl ?_
        exact g_iret hk hR rfl ⟨x9645, (by omega), (by omega), rfl, rfl⟩ dX6_longestRunFirst_40
      · skip
        refine g_aload_n hk dX6_longestRunFirst_15 rfl ?_
        refine g_iload_n hk dX6_longestRunFirst_16 rfl ?_
        refine g_callV (n := 1) hk (k310_X6_runFrom l D zt q d I A x9643 hIv) (SP.same _) (fun _ h => h) (gi_V (List.mem_cons_of_mem _ (List.mem_append_left _ (List.mem_of_getElem? (i := 1) rfl))) (List.mem_cons_of_mem _ (List.mem_append_left _ (List.mem_of_getElem? (i := 2) rfl))) (List.mem_cons_of_mem _ (List.mem_append_left _ (List.mem_of_getElem? (i := 3) rfl))) (List.mem_cons_of_mem _ (List.mem_append_left _ (List.mem_of_getElem? (i := 4) rfl))) (gi_sub (fun w h => (List.mem_cons_of_mem _ (List.mem_append_right _ (List.mem_append_right _ (List.mem_append_left _ h))))) zg_k310_X6_runFrom)) rfl rfl rfl (by decide +kernel) ⟨Nat.le_of_ble_eq_true rfl, Nat.le_of_ble_eq_true rfl⟩ 13 rfl rfl rfl rfl (Nat.le_of_ble_eq_true rfl) ⟨Nat.le_of_ble_eq_true rfl, Nat.le_of_ble_eq_true rfl⟩ dX6_longestRunFirst_17 (fun v ty' w' hp hk' => ?_)
        obtain ⟨y9748, rfl, rfl⟩ := hp
        show GW κ 5 0 0 (wX q d I A) 20 [(3, .int x9643), (2, .int x9644), (1, .int x9645), (0, .ref (q 13))] [.int y9748]
        refine g_istore (lv' := [(4, .int y9748), (3, .int x9643), (2, .int x9644), (1, .int x9645), (0, .ref (q 13))]) hk dX6_longestRunFirst_20 (by decide) rfl ?_
        refine g_iload hk dX6_longestRunFirst_22 rfl ?_
        refine g_iload_n hk dX6_longestRunFirst_24 rfl ?_
        have b9749l := Int32.le_toInt y9748
        have b9749h := Int32.toInt_lt y9748
        have b9750l := Int32.le_toInt x9644
        have b9750h := Int32.toInt_lt x9644
        refine g_icmp_le (tgt := 33) (a := y9748.toInt) (b := x9644.toInt) hk dX6_longestRunFirst_25 (by decide) rfl rfl (fun c9751 => ?_) (fun c9751 => ?_)
        · skip
          obtain ⟨y9752, ey9752⟩ : ∃ y : Int32, y = x9643 + Int32.ofInt 1 := ⟨_, rfl⟩
          have hy9752 : y9752.toInt = x9643.toInt + 1 := i32_add ey9752 rfl (by decide) (by omega) (by omega)
          refine g_iinc (v := y9752) (lv' := [(3, .int y9752), (4, .int y9748), (2, .int x9644), (1, .int x9645), (0, .ref (q 13))]) hk 1 dX6_longestRunFirst_33 rfl ey9752.symm (by decide) rfl ?_
          refine g_goto (tgt := 7) hk dX6_longestRunFirst_36 (by decide) ?_
          exact g_lv (List.forall_mem_cons.mpr ⟨List.mem_of_getElem? (i := 0) rfl, (List.forall_mem_cons.mpr ⟨List.mem_of_getElem? (i := 2) rfl, (List.forall_mem_cons.mpr ⟨List.mem_of_getElem? (i := 3) rfl, (List.forall_mem_cons.mpr ⟨List.mem_of_getElem? (i := 4) rfl, (fun _ h => absurd h List.not_mem_nil)⟩)⟩)⟩)⟩) (ih y9752 x9644 x9645 (by omega) (by omega) (by omega) (by omega) (by omega) (by omega) (by omega))
        · skip
          refine g_iload hk dX6_longestRunFirst_28 rfl ?_
          refine g_istore_n (lv' := [(2, .int y9748), (4, .int y9748), (3, .int x9643), (1, .int x9645), (0, .ref (q 13))]) hk dX6_longestRunFirst_30 (by decide) rfl ?_
          refine g_iload_n hk dX6_longestRunFirst_31 rfl ?_
          refine g_istore_n (lv' := [(1, .int x9643), (2, .int y9748), (4, .int y9748), (3, .int x9643), (0, .ref (q 13))]) hk dX6_longestRunFirst_32 (by decide) rfl ?_
          obtain ⟨y9753, ey9753⟩ : ∃ y : Int32, y = x9643 + Int32.ofInt 1 := ⟨_, rfl⟩
          have hy9753 : y9753.toInt = x9643.toInt + 1 := i32_add ey9753 rfl (by decide) (by omega) (by omega)
          refine g_iinc (v := y9753) (lv' := [(3, .int y9753), (1, .int x9643), (2, .int y9748), (4, .int y9748), (0, .ref (q 13))]) hk 3 dX6_longestRunFirst_33 rfl ey9753.symm (by decide) rfl ?_
          refine g_goto (tgt := 7) hk dX6_longestRunFirst_36 (by decide) ?_
          exact g_lv (List.forall_mem_cons.mpr ⟨List.mem_of_getElem? (i := 0) rfl, (List.forall_mem_cons.mpr ⟨List.mem_of_getElem? (i := 2) rfl, (List.forall_mem_cons.mpr ⟨List.mem_of_getElem? (i := 1) rfl, (List.forall_mem_cons.mpr ⟨List.mem_of_getElem? (i := 4) rfl, (fun _ h => absurd h List.not_mem_nil)⟩)⟩)⟩)⟩) (ih y9753 y9748 x9643 (by omega) (by omega) (by omega) (by omega) (by omega) (by omega) (by omega))
  have k9755 : (0 : Int32).toInt = 0 := rfl
  have k9756 : ((-2) : Int32).toInt = (-2) := rfl
  obtain ⟨n9754, n9754a, n9754b⟩ : ∃ n : Nat, 161 - 0 < (n : Int) ∧ 0 < n := ⟨((161 - 0 : Int)).toNat + 1, by omega, by omega⟩
  exact lp9743 n9754 0 0 (-2) (by omega) (by omega) (by omega) (by omega) (by omega) n9754a n9754b
def wo_k308_X11_whole : List Cond := [Cond.fieldLink RX11 28 "WarpDesk" "series" "LWarpDesk$Series;", Cond.methodLink RX11 356 yX6_longestRunFirst, Cond.instanceMethod yX6_longestRunFirst, Cond.selects RX6 yX6_longestRunFirst yX6_longestRunFirst, Cond.initialized RX6, Cond.methodLink RX11 359 yX6_runFrom, Cond.instanceMethod yX6_runFrom, Cond.selects RX6 yX6_runFrom yX6_runFrom]
def wz_k308_X11_whole : List Cond := .code yX11_whole cX11_whole 3 (some .int) :: (wo_k308_X11_whole ++ (wsX110 ++ (wz_k309_X6_longestRunFirst ++ (wz_k310_X6_runFrom ++ ([] : List Cond)))))
theorem zg_k308_X11_whole : ∀ w ∈ wz_k308_X11_whole, goodWord w = true := zg_cons rfl (zg_app (by decide +kernel) (zg_app zgU_wsX110 (zg_app zg_k309_X6_longestRunFirst (zg_app zg_k310_X6_runFrom zg_nil))))
theorem zi_k308_X11_whole : ∀ w ∈ wz_k308_X11_whole, w ∈ lw_tbl := zi_cons zw_1316 (zi_app (zi_cons zw_489 (zi_cons zw_1317 (zi_cons zw_1318 (zi_cons zw_1319 (zi_cons zw_109 (zi_cons zw_1325 (zi_cons zw_1322 (zi_cons zw_1323 zi_nil)))))))) (zi_app inX11 (zi_app zi_k309_X6_longestRunFirst (zi_app zi_k310_X6_runFrom zi_nil))))
set_option maxHeartbeats 4000000 in
set_option maxRecDepth 100000 in
theorem k308_X11_whole (l : Launch) (D : va_G) (zt : Nat × Nat × Nat × (Nat → Nat) × (Nat → Nat)) (q : Nat → Nat) (d : Nat → ClassId) (I : Nat → Int32) (A : Nat → Nat → Int32) (z1 : Int32) (hIv : IvX I A) : GM l D zt (tyX d) yX11_whole wz_k308_X11_whole ({ frames := 4, cells := 0, slots := 0, locals := 89 } : Room) [.ref (q 0), .int z1] (wX q d I A) (fun v _ w' => ∃ y0 : Int32, v = some (.int y0) ∧ w' = wX q d I A) 0 0 := by
  refine GM.of (cc := cX11_whole) (maxL := 3) (ret := (some .int)) (own := RX11) (lv := [(0, .ref (q 0)), (1, .int z1)]) (by decide) rfl rfl (Nat.le_of_ble_eq_true rfl) rfl (fun κ sz hk hR hN => ?_)
  have hin11 : ∀ w ∈ u_ws RX11 TX11 10, w ∈ wz_k308_X11_whole := fun w h => (List.mem_cons_of_mem _ (List.mem_append_right _ (List.mem_append_left _ h)))
  refine g_iload_n hk dX11_whole_0 rfl ?_
  have b9640l := Int32.le_toInt z1
  have b9640h := Int32.toInt_lt z1
  refine g_if_lt (tgt := 9) (a := z1.toInt) hk dX11_whole_1 (by decide) rfl (fun c9641 => ?_) (fun c9641 => ?_)
  · skip
    refine g_iconst (v := (-1)) hk dX11_whole_9 (by decide) ?_
    exact g_iret hk hR rfl ⟨(-1), rfl, rfl⟩ dX11_whole_10
  · skip
    refine g_iload_n hk dX11_whole_4 rfl ?_
    refine g_iconst (v := 1) hk dX11_whole_5 (by decide) ?_
    refine g_icmp_le (tgt := 11) (a := z1.toInt) (b := 1) hk dX11_whole_6 (by decide) rfl rfl (fun c9642 => ?_) (fun c9642 => ?_)
    · skip
      refine g_aload_n hk dX11_whole_11 rfl ?_
      refine gX_r0_2 hk hin11 (List.mem_cons_of_mem _ (List.mem_append_left _ (List.mem_of_getElem? (i := 0) rfl))) dX11_whole_12 ?_
      refine g_callV (n := 0) hk (k309_X6_longestRunFirst l D zt q d I A  hIv) (SP.same _) (fun _ h => h) (gi_V (List.mem_cons_of_mem _ (List.mem_append_left _ (List.mem_of_getElem? (i := 1) rfl))) (List.mem_cons_of_mem _ (List.mem_append_left _ (List.mem_of_getElem? (i := 2) rfl))) (List.mem_cons_of_mem _ (List.mem_append_left _ (List.mem_of_getElem? (i := 3) rfl))) (List.mem_cons_of_mem _ (List.mem_append_left _ (List.mem_of_getElem? (i := 4) rfl))) (gi_sub (fun w h => (List.mem_cons_of_mem _ (List.mem_append_right _ (List.mem_append_right _ (List.mem_append_left _ h))))) zg_k309_X6_longestRunFirst)) rfl rfl rfl (by decide +kernel) ⟨Nat.le_of_ble_eq_true rfl, Nat.le_of_ble_eq_true rfl⟩ 13 rfl rfl rfl rfl (Nat.le_of_ble_eq_true rfl) ⟨Nat.le_of_ble_eq_true rfl, Nat.le_of_ble_eq_true rfl⟩ dX11_whole_15 (fun v ty' w' hp hk' => ?_)
      obtain ⟨y9757, c9758, c9759, rfl, rfl⟩ := hp
      show GW κ 3 0 0 (wX q d I A) 18 [(0, .ref (q 0)), (1, .int z1)] [.int y9757]
      refine g_istore_n (lv' := [(2, .int y9757), (0, .ref (q 0)), (1, .int z1)]) hk dX11_whole_18 (by decide) rfl ?_
      refine g_iload_n hk dX11_whole_19 rfl ?_
      refine g_if_lt (tgt := 27) (a := y9757.toInt) hk dX11_whole_20 (by decide) rfl (fun c9760 => ?_) (fun c9760 => ?_)
      · skip
        refine g_iload_n hk dX11_whole_27 rfl ?_
        exact g_iret hk hR rfl ⟨y9757, rfl, rfl⟩ dX11_whole_28
      · skip
        refine g_iload_n hk dX11_whole_23 rfl ?_
        refine g_if_ne (tgt := 29) (a := z1.toInt) hk dX11_whole_24 (by decide) rfl (fun c9761 => ?_) (fun c9761 => ?_)
        · skip
          refine g_aload_n hk dX11_whole_29 rfl ?_
          refine gX_r0_2 hk hin11 (List.mem_cons_of_mem _ (List.mem_append_left _ (List.mem_of_getElem? (i := 0) rfl))) dX11_whole_30 ?_
          refine g_iload_n hk dX11_whole_33 rfl ?_
          refine g_callV (n := 1) hk (k310_X6_runFrom l D zt q d I A y9757 hIv) (SP.same _) (fun _ h => h) (gi_V (List.mem_cons_of_mem _ (List.mem_append_left _ (List.mem_of_getElem? (i := 5) rfl))) (List.mem_cons_of_mem _ (List.mem_append_left _ (List.mem_of_getElem? (i := 6) rfl))) (List.mem_cons_of_mem _ (List.mem_append_left _ (List.mem_of_getElem? (i := 7) rfl))) (List.mem_cons_of_mem _ (List.mem_append_left _ (List.mem_of_getElem? (i := 4) rfl))) (gi_sub (fun w h => (List.mem_cons_of_mem _ (List.mem_append_right _ (List.mem_append_right _ (List.mem_append_right _ (List.mem_append_left _ h)))))) zg_k310_X6_runFrom)) rfl rfl rfl (by decide +kernel) ⟨Nat.le_of_ble_eq_true rfl, Nat.le_of_ble_eq_true rfl⟩ 13 rfl rfl rfl rfl (Nat.le_of_ble_eq_true rfl) ⟨Nat.le_of_ble_eq_true rfl, Nat.le_of_ble_eq_true rfl⟩ dX11_whole_34 (fun v ty' w' hp hk' => ?_)
          obtain ⟨y9762, rfl, rfl⟩ := hp
          show GW κ 3 0 0 (wX q d I A) 37 [(2, .int y9757), (0, .ref (q 0)), (1, .int z1)] [.int y9762]
          have b9763l := Int32.le_toInt y9762
          have b9763h := Int32.toInt_lt y9762
          exact g_iret hk hR rfl ⟨y9762, rfl, rfl⟩ dX11_whole_37
        · skip
          refine g_iload_n hk dX11_whole_27 rfl ?_
          exact g_iret hk hR rfl ⟨y9757, rfl, rfl⟩ dX11_whole_28
    · skip
      refine g_iconst (v := (-1)) hk dX11_whole_9 (by decide) ?_
      exact g_iret hk hR rfl ⟨(-1), rfl, rfl⟩ dX11_whole_10
def wo_k313_X8_append : List Cond := [Cond.fieldLink RX8 22 "WarpDesk$Stand" "size" "I", Cond.fieldLink RX8 9 "WarpDesk$Stand" "places" "[I"]
def wz_k313_X8_append : List Cond := .code yX8_append cX8_append 2 none :: (wo_k313_X8_append ++ (wsX80 ++ ([] : List Cond)))
theorem zg_k313_X8_append : ∀ w ∈ wz_k313_X8_append, goodWord w = true := zg_cons rfl (zg_app (by decide +kernel) (zg_app zgU_wsX80 zg_nil))
theorem zi_k313_X8_append : ∀ w ∈ wz_k313_X8_append, w ∈ lw_tbl := zi_cons zw_741 (zi_app (zi_cons zw_195 (zi_cons zw_194 zi_nil)) (zi_app inX8 zi_nil))
set_option maxHeartbeats 4000000 in
set_option maxRecDepth 100000 in
theorem k313_X8_append (l : Launch) (D : va_G) (zt : Nat × Nat × Nat × (Nat → Nat) × (Nat → Nat)) (q : Nat → Nat) (d : Nat → ClassId) (I : Nat → Int32) (A : Nat → Nat → Int32) (z1 : Int32) (hIv : IvX I A) : GM l D zt (tyX d) yX8_append wz_k313_X8_append ({ frames := 0, cells := 0, slots := 0, locals := 0 } : Room) [.ref (q 25), .int z1] (wX q d I A) (fun v _ w' => ∃ (I' : Nat → Int32) (A' : Nat → Nat → Int32), Md [22] I I' ∧ Md [15] A A' ∧ IvX I' A' ∧ v = none ∧ w' = wX q d I' A') 0 0 := by
  refine GM.of (cc := cX8_append) (maxL := 2) (ret := none) (own := RX8) (lv := [(0, .ref (q 25)), (1, .int z1)]) (by decide) rfl rfl (Nat.le_of_ble_eq_true rfl) rfl (fun κ sz hk hR hN => ?_)
  have hin8 : ∀ w ∈ u_ws RX8 TX8 4, w ∈ wz_k313_X8_append := fun w h => (List.mem_cons_of_mem _ (List.mem_append_right _ (List.mem_append_left _ h)))
  refine g_aload_n hk dX8_append_0 rfl ?_
  refine gX_i22 (v := (I 22)) hk hin8 (List.mem_cons_of_mem _ (List.mem_append_left _ (List.mem_of_getElem? (i := 0) rfl))) dX8_append_1 rfl ?_
  have b9776l := Int32.le_toInt (I 22)
  have b9776h := Int32.toInt_lt (I 22)
  refine g_if_lt (tgt := 39) (a := (I 22).toInt) hk dX8_append_4 (by decide) rfl (fun c9777 => ?_) (fun c9777 => ?_)
  · skip
    exact g_vret hk hR ⟨I, A, (show Md [22] I I from Md.rf), (show Md [15] A A from Md.rf), hIv, rfl, rfl⟩ dX8_append_39
  · skip
    refine g_aload_n hk dX8_append_7 rfl ?_
    refine gX_i22 (v := (I 22)) hk hin8 (List.mem_cons_of_mem _ (List.mem_append_left _ (List.mem_of_getElem? (i := 0) rfl))) dX8_append_8 rfl ?_
    refine g_aload_n hk dX8_append_11 rfl ?_
    refine gX_r25_0 hk hin8 (List.mem_cons_of_mem _ (List.mem_append_left _ (List.mem_of_getElem? (i := 1) rfl))) dX8_append_12 ?_
    refine nX_15 hk dX8_append_15 ?_
    refine g_icmp_ge (tgt := 39) (a := (I 22).toInt) (b := 160) hk dX8_append_16 (by decide) rfl rfl (fun c9778 => ?_) (fun c9778 => ?_)
    · skip
      exact g_vret hk hR ⟨I, A, (show Md [22] I I from Md.rf), (show Md [15] A A from Md.rf), hIv, rfl, rfl⟩ dX8_append_39
    · skip
      refine g_aload_n hk dX8_append_19 rfl ?_
      refine gX_r25_0 hk hin8 (List.mem_cons_of_mem _ (List.mem_append_left _ (List.mem_of_getElem? (i := 1) rfl))) dX8_append_20 ?_
      refine g_aload_n hk dX8_append_23 rfl ?_
      refine gX_i22 (v := (I 22)) hk hin8 (List.mem_cons_of_mem _ (List.mem_append_left _ (List.mem_of_getElem? (i := 0) rfl))) dX8_append_24 rfl ?_
      refine g_iload_n hk dX8_append_27 rfl ?_
      refine sX_15 (j := (I 22).toNatClampNeg) hk (vp_in_iff.mpr ⟨by omega, by omega⟩) rfl dX8_append_28 ?_
      refine g_aload_n hk dX8_append_29 rfl ?_
      refine g_dup hk dX8_append_30 rfl ?_
      refine gX_i22 (v := (I 22)) hk hin8 (List.mem_cons_of_mem _ (List.mem_append_left _ (List.mem_of_getElem? (i := 0) rfl))) dX8_append_31 rfl ?_
      refine g_iconst (v := 1) hk dX8_append_34 (by decide) ?_
      refine g_iadd hk dX8_append_35 ?_
      refine g_topi (fun y9779 ey9779 => ?_)
      have hy9779 : y9779.toInt = (I 22).toInt + 1 := i32_add ey9779 rfl rfl (by omega) (by omega)
      refine pX_i22 hk hin8 (List.mem_cons_of_mem _ (List.mem_append_left _ (List.mem_of_getElem? (i := 0) rfl))) dX8_append_36 ?_
      exact g_vret hk hR ⟨(upd I 22 y9779), (up3 A 15 ((I 22).toNatClampNeg) z1), (show Md [22] I (upd I 22 y9779) from (Md.up Md.rf rfl)), (show Md [15] A (up3 A 15 ((I 22).toNatClampNeg) z1) from (Md.up3 Md.rf rfl)), ⟨(IvX_f0 (I := I) (A := A) hIv), (IvX_f18 (I := I) (A := A) hIv), (IvX_f30 (I := I) (A := A) hIv), (IvX_f31 (I := I) (A := A) hIv), (IvX_a4 (I := I) (A := A) hIv), (IvX_a9 (I := I) (A := A) hIv), trivial⟩, rfl, rfl⟩ dX8_append_39
def wo_k312_X6_copyInto : List Cond := [Cond.fieldLink RX6 22 "WarpDesk$Stand" "size" "I", Cond.fieldLink RX6 19 "WarpDesk$Series" "size" "I", Cond.methodLink RX6 33 yX6_valueAt, Cond.instanceMethod yX6_valueAt, Cond.selects RX6 yX6_valueAt yX6_valueAt, Cond.initialized RX6, Cond.methodLink RX6 34 yX8_append, Cond.instanceMethod yX8_append, Cond.selects RX8 yX8_append yX8_append, Cond.initialized RX8]
def wz_k312_X6_copyInto : List Cond := .code yX6_copyInto cX6_copyInto 3 none :: (wo_k312_X6_copyInto ++ (wsX60 ++ (wsX80 ++ (wz_k179_X6_valueAt ++ (wz_k313_X8_append ++ ([] : List Cond))))))
theorem zg_k312_X6_copyInto : ∀ w ∈ wz_k312_X6_copyInto, goodWord w = true := zg_cons rfl (zg_app (by decide +kernel) (zg_app zgU_wsX60 (zg_app zgU_wsX80 (zg_app zg_k179_X6_valueAt (zg_app zg_k313_X8_append zg_nil)))))
theorem zi_k312_X6_copyInto : ∀ w ∈ wz_k312_X6_copyInto, w ∈ lw_tbl := zi_cons zw_1333 (zi_app (zi_cons zw_196 (zi_cons zw_282 (zi_cons zw_843 (zi_cons zw_807 (zi_cons zw_808 (zi_cons zw_109 (zi_cons zw_1334 (zi_cons zw_739 (zi_cons zw_740 (zi_cons zw_106 zi_nil)))))))))) (zi_app inX6 (zi_app inX8 (zi_app zi_k179_X6_valueAt (zi_app zi_k313_X8_append zi_nil)))))
set_option maxHeartbeats 4000000 in
set_option maxRecDepth 100000 in
theorem k312_X6_copyInto (l : Launch) (D : va_G) (zt : Nat × Nat × Nat × (Nat → Nat) × (Nat → Nat)) (q : Nat → Nat) (d : Nat → ClassId) (I : Nat → Int32) (A : Nat → Nat → Int32) (hIv : IvX I A) : GM l D zt (tyX d) yX6_copyInto wz_k312_X6_copyInto ({ frames := 1, cells := 0, slots := 0, locals := 21 } : Room) [.ref (q 13), .ref (q 25)] (wX q d I A) (fun v _ w' => ∃ (I' : Nat → Int32) (A' : Nat → Nat → Int32), Md [22] I I' ∧ Md [15] A A' ∧ IvX I' A' ∧ v = none ∧ w' = wX q d I' A') 0 0 := by
  refine GM.of (cc := cX6_copyInto) (maxL := 3) (ret := none) (own := RX6) (lv := [(0, .ref (q 13)), (1, .ref (q 25))]) (by decide) rfl rfl (Nat.le_of_ble_eq_true rfl) rfl (fun κ sz hk hR hN => ?_)
  have hin6 : ∀ w ∈ u_ws RX6 TX6 3, w ∈ wz_k312_X6_copyInto := fun w h => (List.mem_cons_of_mem _ (List.mem_append_right _ (List.mem_append_left _ h)))
  have hin8 : ∀ w ∈ u_ws RX8 TX8 4, w ∈ wz_k312_X6_copyInto := fun w h => (List.mem_cons_of_mem _ (List.mem_append_right _ (List.mem_append_right _ (List.mem_append_left _ h))))
  refine g_aload_n hk dX6_copyInto_0 rfl ?_
  refine g_iconst (v := 0) hk dX6_copyInto_1 (by decide) ?_
  refine pX_i22 hk hin8 (List.mem_cons_of_mem _ (List.mem_append_left _ (List.mem_of_getElem? (i := 0) rfl))) dX6_copyInto_2 ?_
  refine g_iconst (v := 0) hk dX6_copyInto_5 (by decide) ?_
  refine g_istore_n (lv' := [(2, .int 0), (0, .ref (q 13)), (1, .ref (q 25))]) hk dX6_copyInto_6 (by decide) rfl ?_
  have lp9803 : ∀ (n9804 : Nat) (x9768 : Int32) (I9771 : Nat → Int32) (A9771 : Nat → Nat → Int32), (Md [22] (upd I 22 0) I9771) → (Md [15] A A9771) → (IvX I9771 A9771) → (0 ≤ x9768.toInt) → (x9768.toInt ≤ 160) → (161 - x9768.toInt < (n9804 : Int)) → (0 < n9804) → GW κ 3 0 0 (wX q d I9771 A9771) 7 [(2, .int x9768), (0, .ref (q 13)), (1, .ref (q 25))] [] := by
    intro n9804
    induction n9804 with
    | zero =>
      intro x9768 I9771 A9771 hI9771 hA9771 hV9771 h9801 h9802 m9805 m9805z
      exact absurd m9805z (Nat.lt_irrefl 0)
    | succ n9804 ih =>
      intro x9768 I9771 A9771 hI9771 hA9771 hV9771 h9801 h9802 m9805 m9805z
      refine g_iload_n hk dX6_copyInto_7 rfl ?_
      refine g_aload_n hk dX6_copyInto_8 rfl ?_
      refine gX_i18 (v := (I 18)) hk hin6 (List.mem_cons_of_mem _ (List.mem_append_left _ (List.mem_of_getElem? (i := 1) rfl))) dX6_copyInto_9 (hI9771 18 rfl) ?_
      have f9806 := IvX_f18 hIv
      refine g_icmp_ge (tgt := 30) (a := x9768.toInt) (b := (I 18).toInt) hk dX6_copyInto_12 (by decide) rfl rfl (fun c9807 => ?_) (fun c9807 => ?_)
      · skip
        exact g_vret hk hR ⟨I9771, A9771, (show Md [22] I I9771 from (Md.tr (Md.up Md.rf rfl) hI9771 rfl)), (show Md [15] A A9771 from (Md.tr Md.rf hA9771 rfl)), hV9771, rfl, rfl⟩ dX6_copyInto_30
      · skip
        refine g_aload_n hk dX6_copyInto_15 rfl ?_
        refine g_aload_n hk dX6_copyInto_16 rfl ?_
        refine g_iload_n hk dX6_copyInto_17 rfl ?_
        refine g_callV (n := 1) hk (k179_X6_valueAt l D zt q d I9771 A9771 x9768 hV9771) (SP.same _) (fun _ h => h) (gi_V (List.mem_cons_of_mem _ (List.mem_append_left _ (List.mem_of_getElem? (i := 2) rfl))) (List.mem_cons_of_mem _ (List.mem_append_left _ (List.mem_of_getElem? (i := 3) rfl))) (List.mem_cons_of_mem _ (List.mem_append_left _ (List.mem_of_getElem? (i := 4) rfl))) (List.mem_cons_of_mem _ (List.mem_append_left _ (List.mem_of_getElem? (i := 5) rfl))) (gi_sub (fun w h => (List.mem_cons_of_mem _ (List.mem_append_right _ (List.mem_append_right _ (List.mem_append_right _ (List.mem_append_left _ h)))))) zg_k179_X6_valueAt)) rfl rfl rfl (by decide +kernel) ⟨Nat.le_of_ble_eq_true rfl, Nat.le_of_ble_eq_true rfl⟩ 13 rfl rfl rfl rfl (Nat.le_of_ble_eq_true rfl) ⟨Nat.le_of_ble_eq_true rfl, Nat.le_of_ble_eq_true rfl⟩ dX6_copyInto_18 (fun v ty' w' hp hk' => ?_)
        obtain ⟨y9808, rfl, rfl⟩ := hp
        show GW κ 3 0 0 (wX q d I9771 A9771) 21 [(2, .int x9768), (0, .ref (q 13)), (1, .ref (q 25))] [.int y9808, .ref (q 25)]
        refine g_callV (n := 1) hk (k313_X8_append l D zt q d I9771 A9771 y9808 hV9771) (SP.same _) (fun _ h => h) (gi_V (List.mem_cons_of_mem _ (List.mem_append_left _ (List.mem_of_getElem? (i := 6) rfl))) (List.mem_cons_of_mem _ (List.mem_append_left _ (List.mem_of_getElem? (i := 7) rfl))) (List.mem_cons_of_mem _ (List.mem_append_left _ (List.mem_of_getElem? (i := 8) rfl))) (List.mem_cons_of_mem _ (List.mem_append_left _ (List.mem_of_getElem? (i := 9) rfl))) (gi_sub (fun w h => (List.mem_cons_of_mem _ (List.mem_append_right _ (List.mem_append_right _ (List.mem_append_right _ (List.mem_append_right _ (List.mem_append_left _ h))))))) zg_k313_X8_append)) rfl rfl rfl (by decide +kernel) ⟨Nat.le_of_ble_eq_true rfl, Nat.le_of_ble_eq_true rfl⟩ 25 rfl rfl rfl rfl (Nat.le_of_ble_eq_true rfl) ⟨Nat.le_of_ble_eq_true rfl, Nat.le_of_ble_eq_true rfl⟩ dX6_copyInto_21 (fun v ty' w' hp hk' => ?_)
        obtain ⟨I9810, A9810, hI9810, hA9810, hV9810, rfl, rfl⟩ := hp
        show GW κ 3 0 0 (wX q d I9810 A9810) 24 [(2, .int x9768), (0, .ref (q 13)), (1, .ref (q 25))] []
        obtain ⟨y9811, ey9811⟩ : ∃ y : Int32, y = x9768 + Int32.ofInt 1 := ⟨_, rfl⟩
        have hy9811 : y9811.toInt = x9768.toInt + 1 := i32_add ey9811 rfl (by decide) (by omega) (by omega)
        refine g_iinc (v := y9811) (lv' := [(2, .int y9811), (0, .ref (q 13)), (1, .ref (q 25))]) hk 0 dX6_copyInto_24 rfl ey9811.symm (by decide) rfl ?_
        refine g_goto (tgt := 7) hk dX6_copyInto_27 (by decide) ?_
        exact g_lv (List.forall_mem_cons.mpr ⟨List.mem_of_getElem? (i := 0) rfl, (List.forall_mem_cons.mpr ⟨List.mem_of_getElem? (i := 1) rfl, (List.forall_mem_cons.mpr ⟨List.mem_of_getElem? (i := 2) rfl, (fun _ h => absurd h List.not_mem_nil)⟩)⟩)⟩) (ih y9811 I9810 A9810 (show Md [22] (upd I 22 0) I9810 from Md.tr hI9771 (show Md [22] I9771 I9810 from (Md.tr Md.rf hI9810 rfl)) rfl) (show Md [15] A A9810 from Md.tr hA9771 (show Md [15] A9771 A9810 from (Md.tr Md.rf hA9810 rfl)) rfl) hV9810 (by omega) (by omega) (by omega) (by omega))
  have k9813 : (0 : Int32).toInt = 0 := rfl
  obtain ⟨n9812, n9812a, n9812b⟩ : ∃ n : Nat, 161 - 0 < (n : Int) ∧ 0 < n := ⟨((161 - 0 : Int)).toNat + 1, by omega, by omega⟩
  exact lp9803 n9812 0 (upd I 22 0) A Md.rf Md.rf ⟨(IvX_f0 (I := I) (A := A) hIv), (IvX_f18 (I := I) (A := A) hIv), (IvX_f30 (I := I) (A := A) hIv), (IvX_f31 (I := I) (A := A) hIv), (IvX_a4 (I := I) (A := A) hIv), (IvX_a9 (I := I) (A := A) hIv), trivial⟩ (by omega) (by omega) n9812a n9812b
def wo_k314_X7_takeFrom : List Cond := [Cond.fieldLink RX7 20 "WarpDesk$Settings" "values" "[I", Cond.methodLink RX7 33 yX7_valueOf, Cond.instanceMethod yX7_valueOf, Cond.selects RX7 yX7_valueOf yX7_valueOf, Cond.initialized RX7]
def wz_k314_X7_takeFrom : List Cond := .code yX7_takeFrom cX7_takeFrom 3 none :: (wo_k314_X7_takeFrom ++ (wsX70 ++ (wz_k194_X7_valueOf ++ ([] : List Cond))))
theorem zg_k314_X7_takeFrom : ∀ w ∈ wz_k314_X7_takeFrom, goodWord w = true := zg_cons rfl (zg_app (by decide +kernel) (zg_app zgU_wsX70 (zg_app zg_k194_X7_valueOf zg_nil)))
theorem zi_k314_X7_takeFrom : ∀ w ∈ wz_k314_X7_takeFrom, w ∈ lw_tbl := zi_cons zw_784 (zi_app (zi_cons zw_190 (zi_cons zw_785 (zi_cons zw_786 (zi_cons zw_787 (zi_cons zw_107 zi_nil))))) (zi_app inX7 (zi_app zi_k194_X7_valueOf zi_nil)))
set_option maxHeartbeats 4000000 in
set_option maxRecDepth 100000 in
theorem k314_X7_takeFrom (l : Launch) (D : va_G) (zt : Nat × Nat × Nat × (Nat → Nat) × (Nat → Nat)) (q : Nat → Nat) (d : Nat → ClassId) (I : Nat → Int32) (A : Nat → Nat → Int32) (hIv : IvX I A) : GM l D zt (tyX d) yX7_takeFrom wz_k314_X7_takeFrom ({ frames := 1, cells := 0, slots := 0, locals := 21 } : Room) [.ref (q 27), .ref (q 18)] (wX q d I A) (fun v _ w' => ∃ (I' : Nat → Int32) (A' : Nat → Nat → Int32), Md [] I I' ∧ Md [16] A A' ∧ IvX I' A' ∧ v = none ∧ w' = wX q d I' A') 0 0 := by
  refine GM.of (cc := cX7_takeFrom) (maxL := 3) (ret := none) (own := RX7) (lv := [(0, .ref (q 27)), (1, .ref (q 18))]) (by decide) rfl rfl (Nat.le_of_ble_eq_true rfl) rfl (fun κ sz hk hR hN => ?_)
  have hin7 : ∀ w ∈ u_ws RX7 TX7 1, w ∈ wz_k314_X7_takeFrom := fun w h => (List.mem_cons_of_mem _ (List.mem_append_right _ (List.mem_append_left _ h)))
  refine g_iconst (v := 0) hk dX7_takeFrom_0 (by decide) ?_
  refine g_istore_n (lv' := [(2, .int 0), (0, .ref (q 27)), (1, .ref (q 18))]) hk dX7_takeFrom_1 (by decide) rfl ?_
  have lp9833 : ∀ (n9834 : Nat) (x9816 : Int32) (I9819 : Nat → Int32) (A9819 : Nat → Nat → Int32), (Md [] I I9819) → (Md [16] A A9819) → (IvX I9819 A9819) → (0 ≤ x9816.toInt) → (x9816.toInt ≤ 4) → (5 - x9816.toInt < (n9834 : Int)) → (0 < n9834) → GW κ 3 0 0 (wX q d I9819 A9819) 2 [(2, .int x9816), (0, .ref (q 27)), (1, .ref (q 18))] [] := by
    intro n9834
    induction n9834 with
    | zero =>
      intro x9816 I9819 A9819 hI9819 hA9819 hV9819 h9831 h9832 m9835 m9835z
      exact absurd m9835z (Nat.lt_irrefl 0)
    | succ n9834 ih =>
      intro x9816 I9819 A9819 hI9819 hA9819 hV9819 h9831 h9832 m9835 m9835z
      refine g_iload_n hk dX7_takeFrom_2 rfl ?_
      refine g_aload_n hk dX7_takeFrom_3 rfl ?_
      refine gX_r27_0 hk hin7 (List.mem_cons_of_mem _ (List.mem_append_left _ (List.mem_of_getElem? (i := 0) rfl))) dX7_takeFrom_4 ?_
      refine nX_16 hk dX7_takeFrom_7 ?_
      refine g_icmp_ge (tgt := 28) (a := x9816.toInt) (b := 4) hk dX7_takeFrom_8 (by decide) rfl rfl (fun c9836 => ?_) (fun c9836 => ?_)
      · skip
        exact g_vret hk hR ⟨I9819, A9819, (show Md [] I I9819 from (Md.tr Md.rf hI9819 rfl)), (show Md [16] A A9819 from (Md.tr Md.rf hA9819 rfl)), hV9819, rfl, rfl⟩ dX7_takeFrom_28
      · skip
        refine g_aload_n hk dX7_takeFrom_11 rfl ?_
        refine gX_r27_0 hk hin7 (List.mem_cons_of_mem _ (List.mem_append_left _ (List.mem_of_getElem? (i := 0) rfl))) dX7_takeFrom_12 ?_
        refine g_iload_n hk dX7_takeFrom_15 rfl ?_
        refine g_aload_n hk dX7_takeFrom_16 rfl ?_
        refine g_iload_n hk dX7_takeFrom_17 rfl ?_
        refine g_callV (n := 1) hk (k194_X7_valueOf l D zt q d I9819 A9819 x9816 hV9819) (SP.same _) (fun _ h => h) (gi_V (List.mem_cons_of_mem _ (List.mem_append_left _ (List.mem_of_getElem? (i := 1) rfl))) (List.mem_cons_of_mem _ (List.mem_append_left _ (List.mem_of_getElem? (i := 2) rfl))) (List.mem_cons_of_mem _ (List.mem_append_left _ (List.mem_of_getElem? (i := 3) rfl))) (List.mem_cons_of_mem _ (List.mem_append_left _ (List.mem_of_getElem? (i := 4) rfl))) (gi_sub (fun w h => (List.mem_cons_of_mem _ (List.mem_append_right _ (List.mem_append_right _ (List.mem_append_left _ h))))) zg_k194_X7_valueOf)) rfl rfl rfl (by decide +kernel) ⟨Nat.le_of_ble_eq_true rfl, Nat.le_of_ble_eq_true rfl⟩ 18 rfl rfl rfl rfl (Nat.le_of_ble_eq_true rfl) ⟨Nat.le_of_ble_eq_true rfl, Nat.le_of_ble_eq_true rfl⟩ dX7_takeFrom_18 (fun v ty' w' hp hk' => ?_)
        obtain ⟨y9837, rfl, rfl⟩ := hp
        show GW κ 3 0 0 (wX q d I9819 A9819) 21 [(2, .int x9816), (0, .ref (q 27)), (1, .ref (q 18))] [.int y9837, .int x9816, .ref (q 28)]
        refine sX_16 (j := x9816.toNatClampNeg) hk (vp_in_iff.mpr ⟨by omega, by omega⟩) rfl dX7_takeFrom_21 ?_
        obtain ⟨y9838, ey9838⟩ : ∃ y : Int32, y = x9816 + Int32.ofInt 1 := ⟨_, rfl⟩
        have hy9838 : y9838.toInt = x9816.toInt + 1 := i32_add ey9838 rfl (by decide) (by omega) (by omega)
        refine g_iinc (v := y9838) (lv' := [(2, .int y9838), (0, .ref (q 27)), (1, .ref (q 18))]) hk 0 dX7_takeFrom_22 rfl ey9838.symm (by decide) rfl ?_
        refine g_goto (tgt := 2) hk dX7_takeFrom_25 (by decide) ?_
        exact g_lv (List.forall_mem_cons.mpr ⟨List.mem_of_getElem? (i := 0) rfl, (List.forall_mem_cons.mpr ⟨List.mem_of_getElem? (i := 1) rfl, (List.forall_mem_cons.mpr ⟨List.mem_of_getElem? (i := 2) rfl, (fun _ h => absurd h List.not_mem_nil)⟩)⟩)⟩) (ih y9838 I9819 (up3 A9819 16 (x9816.toNatClampNeg) y9837) (show Md [] I I9819 from Md.tr hI9819 (show Md [] I9819 I9819 from Md.rf) rfl) (show Md [16] A (up3 A9819 16 (x9816.toNatClampNeg) y9837) from Md.tr hA9819 (show Md [16] A9819 (up3 A9819 16 (x9816.toNatClampNeg) y9837) from (Md.up3 Md.rf rfl)) rfl) ⟨(IvX_f0 (I := I9819) (A := A9819) hV9819), (IvX_f18 (I := I9819) (A := A9819) hV9819), (IvX_f30 (I := I9819) (A := A9819) hV9819), (IvX_f31 (I := I9819) (A := A9819) hV9819), (IvX_a4 (I := I9819) (A := A9819) hV9819), (IvX_a9 (I := I9819) (A := A9819) hV9819), trivial⟩ (by omega) (by omega) (by omega) (by omega))
  have k9840 : (0 : Int32).toInt = 0 := rfl
  obtain ⟨n9839, n9839a, n9839b⟩ : ∃ n : Nat, 5 - 0 < (n : Int) ∧ 0 < n := ⟨((5 - 0 : Int)).toNat + 1, by omega, by omega⟩
  exact lp9833 n9839 0 I A Md.rf Md.rf hIv (by omega) (by omega) n9839a n9839b
def wo_k316_X8_append : List Cond := [Cond.fieldLink RX8 22 "WarpDesk$Stand" "size" "I", Cond.fieldLink RX8 9 "WarpDesk$Stand" "places" "[I"]
def wz_k316_X8_append : List Cond := .code yX8_append cX8_append 2 none :: (wo_k316_X8_append ++ (wsX80 ++ ([] : List Cond)))
theorem zg_k316_X8_append : ∀ w ∈ wz_k316_X8_append, goodWord w = true := zg_cons rfl (zg_app (by decide +kernel) (zg_app zgU_wsX80 zg_nil))
theorem zi_k316_X8_append : ∀ w ∈ wz_k316_X8_append, w ∈ lw_tbl := zi_cons zw_741 (zi_app (zi_cons zw_195 (zi_cons zw_194 zi_nil)) (zi_app inX8 zi_nil))
set_option maxHeartbeats 4000000 in
set_option maxRecDepth 100000 in
theorem k316_X8_append (l : Launch) (D : va_G) (zt : Nat × Nat × Nat × (Nat → Nat) × (Nat → Nat)) (q : Nat → Nat) (d : Nat → ClassId) (I : Nat → Int32) (A : Nat → Nat → Int32) (z1 : Int32) (hIv : IvX I A) : GM l D zt (tyX d) yX8_append wz_k316_X8_append ({ frames := 0, cells := 0, slots := 0, locals := 0 } : Room) [.ref (q 29), .int z1] (wX q d I A) (fun v _ w' => ∃ (I' : Nat → Int32) (A' : Nat → Nat → Int32), Md [24] I I' ∧ Md [17] A A' ∧ IvX I' A' ∧ v = none ∧ w' = wX q d I' A') 0 0 := by
  refine GM.of (cc := cX8_append) (maxL := 2) (ret := none) (own := RX8) (lv := [(0, .ref (q 29)), (1, .int z1)]) (by decide) rfl rfl (Nat.le_of_ble_eq_true rfl) rfl (fun κ sz hk hR hN => ?_)
  have hin8 : ∀ w ∈ u_ws RX8 TX8 4, w ∈ wz_k316_X8_append := fun w h => (List.mem_cons_of_mem _ (List.mem_append_right _ (List.mem_append_left _ h)))
  refine g_aload_n hk dX8_append_0 rfl ?_
  refine gX_i24 (v := (I 24)) hk hin8 (List.mem_cons_of_mem _ (List.mem_append_left _ (List.mem_of_getElem? (i := 0) rfl))) dX8_append_1 rfl ?_
  have b9852l := Int32.le_toInt (I 24)
  have b9852h := Int32.toInt_lt (I 24)
  refine g_if_lt (tgt := 39) (a := (I 24).toInt) hk dX8_append_4 (by decide) rfl (fun c9853 => ?_) (fun c9853 => ?_)
  · skip
    exact g_vret hk hR ⟨I, A, (show Md [24] I I from Md.rf), (show Md [17] A A from Md.rf), hIv, rfl, rfl⟩ dX8_append_39
  · skip
    refine g_aload_n hk dX8_append_7 rfl ?_
    refine gX_i24 (v := (I 24)) hk hin8 (List.mem_cons_of_mem _ (List.mem_append_left _ (List.mem_of_getElem? (i := 0) rfl))) dX8_append_8 rfl ?_
    refine g_aload_n hk dX8_append_11 rfl ?_
    refine gX_r29_0 hk hin8 (List.mem_cons_of_mem _ (List.mem_append_left _ (List.mem_of_getElem? (i := 1) rfl))) dX8_append_12 ?_
    refine nX_17 hk dX8_append_15 ?_
    refine g_icmp_ge (tgt := 39) (a := (I 24).toInt) (b := 160) hk dX8_append_16 (by decide) rfl rfl (fun c9854 => ?_) (fun c9854 => ?_)
    · skip
      exact g_vret hk hR ⟨I, A, (show Md [24] I I from Md.rf), (show Md [17] A A from Md.rf), hIv, rfl, rfl⟩ dX8_append_39
    · skip
      refine g_aload_n hk dX8_append_19 rfl ?_
      refine gX_r29_0 hk hin8 (List.mem_cons_of_mem _ (List.mem_append_left _ (List.mem_of_getElem? (i := 1) rfl))) dX8_append_20 ?_
      refine g_aload_n hk dX8_append_23 rfl ?_
      refine gX_i24 (v := (I 24)) hk hin8 (List.mem_cons_of_mem _ (List.mem_append_left _ (List.mem_of_getElem? (i := 0) rfl))) dX8_append_24 rfl ?_
      refine g_iload_n hk dX8_append_27 rfl ?_
      refine sX_17 (j := (I 24).toNatClampNeg) hk (vp_in_iff.mpr ⟨by omega, by omega⟩) rfl dX8_append_28 ?_
      refine g_aload_n hk dX8_append_29 rfl ?_
      refine g_dup hk dX8_append_30 rfl ?_
      refine gX_i24 (v := (I 24)) hk hin8 (List.mem_cons_of_mem _ (List.mem_append_left _ (List.mem_of_getElem? (i := 0) rfl))) dX8_append_31 rfl ?_
      refine g_iconst (v := 1) hk dX8_append_34 (by decide) ?_
      refine g_iadd hk dX8_append_35 ?_
      refine g_topi (fun y9855 ey9855 => ?_)
      have hy9855 : y9855.toInt = (I 24).toInt + 1 := i32_add ey9855 rfl rfl (by omega) (by omega)
      refine pX_i24 hk hin8 (List.mem_cons_of_mem _ (List.mem_append_left _ (List.mem_of_getElem? (i := 0) rfl))) dX8_append_36 ?_
      exact g_vret hk hR ⟨(upd I 24 y9855), (up3 A 17 ((I 24).toNatClampNeg) z1), (show Md [24] I (upd I 24 y9855) from (Md.up Md.rf rfl)), (show Md [17] A (up3 A 17 ((I 24).toNatClampNeg) z1) from (Md.up3 Md.rf rfl)), ⟨(IvX_f0 (I := I) (A := A) hIv), (IvX_f18 (I := I) (A := A) hIv), (IvX_f30 (I := I) (A := A) hIv), (IvX_f31 (I := I) (A := A) hIv), (IvX_a4 (I := I) (A := A) hIv), (IvX_a9 (I := I) (A := A) hIv), trivial⟩, rfl, rfl⟩ dX8_append_39
def wo_k315_X6_copyInto : List Cond := [Cond.fieldLink RX6 22 "WarpDesk$Stand" "size" "I", Cond.fieldLink RX6 19 "WarpDesk$Series" "size" "I", Cond.methodLink RX6 33 yX6_valueAt, Cond.instanceMethod yX6_valueAt, Cond.selects RX6 yX6_valueAt yX6_valueAt, Cond.initialized RX6, Cond.methodLink RX6 34 yX8_append, Cond.instanceMethod yX8_append, Cond.selects RX8 yX8_append yX8_append, Cond.initialized RX8]
def wz_k315_X6_copyInto : List Cond := .code yX6_copyInto cX6_copyInto 3 none :: (wo_k315_X6_copyInto ++ (wsX60 ++ (wsX80 ++ (wz_k179_X6_valueAt ++ (wz_k316_X8_append ++ ([] : List Cond))))))
theorem zg_k315_X6_copyInto : ∀ w ∈ wz_k315_X6_copyInto, goodWord w = true := zg_cons rfl (zg_app (by decide +kernel) (zg_app zgU_wsX60 (zg_app zgU_wsX80 (zg_app zg_k179_X6_valueAt (zg_app zg_k316_X8_append zg_nil)))))
theorem zi_k315_X6_copyInto : ∀ w ∈ wz_k315_X6_copyInto, w ∈ lw_tbl := zi_cons zw_1333 (zi_app (zi_cons zw_196 (zi_cons zw_282 (zi_cons zw_843 (zi_cons zw_807 (zi_cons zw_808 (zi_cons zw_109 (zi_cons zw_1334 (zi_cons zw_739 (zi_cons zw_740 (zi_cons zw_106 zi_nil)))))))))) (zi_app inX6 (zi_app inX8 (zi_app zi_k179_X6_valueAt (zi_app zi_k316_X8_append zi_nil)))))
set_option maxHeartbeats 4000000 in
set_option maxRecDepth 100000 in
theorem k315_X6_copyInto (l : Launch) (D : va_G) (zt : Nat × Nat × Nat × (Nat → Nat) × (Nat → Nat)) (q : Nat → Nat) (d : Nat → ClassId) (I : Nat → Int32) (A : Nat → Nat → Int32) (hIv : IvX I A) : GM l D zt (tyX d) yX6_copyInto wz_k315_X6_copyInto ({ frames := 1, cells := 0, slots := 0, locals := 21 } : Room) [.ref (q 13), .ref (q 29)] (wX q d I A) (fun v _ w' => ∃ (I' : Nat → Int32) (A' : Nat → Nat → Int32), Md [24] I I' ∧ Md [17] A A' ∧ IvX I' A' ∧ v = none ∧ w' = wX q d I' A') 0 0 := by
  refine GM.of (cc := cX6_copyInto) (maxL := 3) (ret := none) (own := RX6) (lv := [(0, .ref (q 13)), (1, .ref (q 29))]) (by decide) rfl rfl (Nat.le_of_ble_eq_true rfl) rfl (fun κ sz hk hR hN => ?_)
  have hin6 : ∀ w ∈ u_ws RX6 TX6 3, w ∈ wz_k315_X6_copyInto := fun w h => (List.mem_cons_of_mem _ (List.mem_append_right _ (List.mem_append_left _ h)))
  have hin8 : ∀ w ∈ u_ws RX8 TX8 4, w ∈ wz_k315_X6_copyInto := fun w h => (List.mem_cons_of_mem _ (List.mem_append_right _ (List.mem_append_right _ (List.mem_append_left _ h))))
  refine g_aload_n hk dX6_copyInto_0 rfl ?_
  refine g_iconst (v := 0) hk dX6_copyInto_1 (by decide) ?_
  refine pX_i24 hk hin8 (List.mem_cons_of_mem _ (List.mem_append_left _ (List.mem_of_getElem? (i := 0) rfl))) dX6_copyInto_2 ?_
  refine g_iconst (v := 0) hk dX6_copyInto_5 (by decide) ?_
  refine g_istore_n (lv' := [(2, .int 0), (0, .ref (q 13)), (1, .ref (q 29))]) hk dX6_copyInto_6 (by decide) rfl ?_
  have lp9879 : ∀ (n9880 : Nat) (x9844 : Int32) (I9847 : Nat → Int32) (A9847 : Nat → Nat → Int32), (Md [24] (upd I 24 0) I9847) → (Md [17] A A9847) → (IvX I9847 A9847) → (0 ≤ x9844.toInt) → (x9844.toInt ≤ 160) → (161 - x9844.toInt < (n9880 : Int)) → (0 < n9880) → GW κ 3 0 0 (wX q d I9847 A9847) 7 [(2, .int x9844), (0, .ref (q 13)), (1, .ref (q 29))] [] := by
    intro n9880
    induction n9880 with
    | zero =>
      intro x9844 I9847 A9847 hI9847 hA9847 hV9847 h9877 h9878 m9881 m9881z
      exact absurd m9881z (Nat.lt_irrefl 0)
    | succ n9880 ih =>
      intro x9844 I9847 A9847 hI9847 hA9847 hV9847 h9877 h9878 m9881 m9881z
      refine g_iload_n hk dX6_copyInto_7 rfl ?_
      refine g_aload_n hk dX6_copyInto_8 rfl ?_
      refine gX_i18 (v := (I 18)) hk hin6 (List.mem_cons_of_mem _ (List.mem_append_left _ (List.mem_of_getElem? (i := 1) rfl))) dX6_copyInto_9 (hI9847 18 rfl) ?_
      have f9882 := IvX_f18 hIv
      refine g_icmp_ge (tgt := 30) (a := x9844.toInt) (b := (I 18).toInt) hk dX6_copyInto_12 (by decide) rfl rfl (fun c9883 => ?_) (fun c9883 => ?_)
      · skip
        exact g_vret hk hR ⟨I9847, A9847, (show Md [24] I I9847 from (Md.tr (Md.up Md.rf rfl) hI9847 rfl)), (show Md [17] A A9847 from (Md.tr Md.rf hA9847 rfl)), hV9847, rfl, rfl⟩ dX6_copyInto_30
      · skip
        refine g_aload_n hk dX6_copyInto_15 rfl ?_
        refine g_aload_n hk dX6_copyInto_16 rfl ?_
        refine g_iload_n hk dX6_copyInto_17 rfl ?_
        refine g_callV (n := 1) hk (k179_X6_valueAt l D zt q d I9847 A9847 x9844 hV9847) (SP.same _) (fun _ h => h) (gi_V (List.mem_cons_of_mem _ (List.mem_append_left _ (List.mem_of_getElem? (i := 2) rfl))) (List.mem_cons_of_mem _ (List.mem_append_left _ (List.mem_of_getElem? (i := 3) rfl))) (List.mem_cons_of_mem _ (List.mem_append_left _ (List.mem_of_getElem? (i := 4) rfl))) (List.mem_cons_of_mem _ (List.mem_append_left _ (List.mem_of_getElem? (i := 5) rfl))) (gi_sub (fun w h => (List.mem_cons_of_mem _ (List.mem_append_right _ (List.mem_append_right _ (List.mem_append_right _ (List.mem_append_left _ h)))))) zg_k179_X6_valueAt)) rfl rfl rfl (by decide +kernel) ⟨Nat.le_of_ble_eq_true rfl, Nat.le_of_ble_eq_true rfl⟩ 13 rfl rfl rfl rfl (Nat.le_of_ble_eq_true rfl) ⟨Nat.le_of_ble_eq_true rfl, Nat.le_of_ble_eq_true rfl⟩ dX6_copyInto_18 (fun v ty' w' hp hk' => ?_)
        obtain ⟨y9884, rfl, rfl⟩ := hp
        show GW κ 3 0 0 (wX q d I9847 A9847) 21 [(2, .int x9844), (0, .ref (q 13)), (1, .ref (q 29))] [.int y9884, .ref (q 29)]
        refine g_callV (n := 1) hk (k316_X8_append l D zt q d I9847 A9847 y9884 hV9847) (SP.same _) (fun _ h => h) (gi_V (List.mem_cons_of_mem _ (List.mem_append_left _ (List.mem_of_getElem? (i := 6) rfl))) (List.mem_cons_of_mem _ (List.mem_append_left _ (List.mem_of_getElem? (i := 7) rfl))) (List.mem_cons_of_mem _ (List.mem_append_left _ (List.mem_of_getElem? (i := 8) rfl))) (List.mem_cons_of_mem _ (List.mem_append_left _ (List.mem_of_getElem? (i := 9) rfl))) (gi_sub (fun w h => (List.mem_cons_of_mem _ (List.mem_append_right _ (List.mem_append_right _ (List.mem_append_right _ (List.mem_append_right _ (List.mem_append_left _ h))))))) zg_k316_X8_append)) rfl rfl rfl (by decide +kernel) ⟨Nat.le_of_ble_eq_true rfl, Nat.le_of_ble_eq_true rfl⟩ 29 rfl rfl rfl rfl (Nat.le_of_ble_eq_true rfl) ⟨Nat.le_of_ble_eq_true rfl, Nat.le_of_ble_eq_true rfl⟩ dX6_copyInto_21 (fun v ty' w' hp hk' => ?_)
        obtain ⟨I9886, A9886, hI9886, hA9886, hV9886, rfl, rfl⟩ := hp
        show GW κ 3 0 0 (wX q d I9886 A9886) 24 [(2, .int x9844), (0, .ref (q 13)), (1, .ref (q 29))] []
        obtain ⟨y9887, ey9887⟩ : ∃ y : Int32, y = x9844 + Int32.ofInt 1 := ⟨_, rfl⟩
        have hy9887 : y9887.toInt = x9844.toInt + 1 := i32_add ey9887 rfl (by decide) (by omega) (by omega)
        refine g_iinc (v := y9887) (lv' := [(2, .int y9887), (0, .ref (q 13)), (1, .ref (q 29))]) hk 0 dX6_copyInto_24 rfl ey9887.symm (by decide) rfl ?_
        refine g_goto (tgt := 7) hk dX6_copyInto_27 (by decide) ?_
        exact g_lv (List.forall_mem_cons.mpr ⟨List.mem_of_getElem? (i := 0) rfl, (List.forall_mem_cons.mpr ⟨List.mem_of_getElem? (i := 1) rfl, (List.forall_mem_cons.mpr ⟨List.mem_of_getElem? (i := 2) rfl, (fun _ h => absurd h List.not_mem_nil)⟩)⟩)⟩) (ih y9887 I9886 A9886 (show Md [24] (upd I 24 0) I9886 from Md.tr hI9847 (show Md [24] I9847 I9886 from (Md.tr Md.rf hI9886 rfl)) rfl) (show Md [17] A A9886 from Md.tr hA9847 (show Md [17] A9847 A9886 from (Md.tr Md.rf hA9886 rfl)) rfl) hV9886 (by omega) (by omega) (by omega) (by omega))
  have k9889 : (0 : Int32).toInt = 0 := rfl
  obtain ⟨n9888, n9888a, n9888b⟩ : ∃ n : Nat, 161 - 0 < (n : Int) ∧ 0 < n := ⟨((161 - 0 : Int)).toNat + 1, by omega, by omega⟩
  exact lp9879 n9888 0 (upd I 24 0) A Md.rf Md.rf ⟨(IvX_f0 (I := I) (A := A) hIv), (IvX_f18 (I := I) (A := A) hIv), (IvX_f30 (I := I) (A := A) hIv), (IvX_f31 (I := I) (A := A) hIv), (IvX_a4 (I := I) (A := A) hIv), (IvX_a9 (I := I) (A := A) hIv), trivial⟩ (by omega) (by omega) n9888a n9888b
def wo_k317_X7_takeFrom : List Cond := [Cond.fieldLink RX7 20 "WarpDesk$Settings" "values" "[I", Cond.methodLink RX7 33 yX7_valueOf, Cond.instanceMethod yX7_valueOf, Cond.selects RX7 yX7_valueOf yX7_valueOf, Cond.initialized RX7]
def wz_k317_X7_takeFrom : List Cond := .code yX7_takeFrom cX7_takeFrom 3 none :: (wo_k317_X7_takeFrom ++ (wsX70 ++ (wz_k194_X7_valueOf ++ ([] : List Cond))))
theorem zg_k317_X7_takeFrom : ∀ w ∈ wz_k317_X7_takeFrom, goodWord w = true := zg_cons rfl (zg_app (by decide +kernel) (zg_app zgU_wsX70 (zg_app zg_k194_X7_valueOf zg_nil)))
theorem zi_k317_X7_takeFrom : ∀ w ∈ wz_k317_X7_takeFrom, w ∈ lw_tbl := zi_cons zw_784 (zi_app (zi_cons zw_190 (zi_cons zw_785 (zi_cons zw_786 (zi_cons zw_787 (zi_cons zw_107 zi_nil))))) (zi_app inX7 (zi_app zi_k194_X7_valueOf zi_nil)))
set_option maxHeartbeats 4000000 in
set_option maxRecDepth 100000 in
theorem k317_X7_takeFrom (l : Launch) (D : va_G) (zt : Nat × Nat × Nat × (Nat → Nat) × (Nat → Nat)) (q : Nat → Nat) (d : Nat → ClassId) (I : Nat → Int32) (A : Nat → Nat → Int32) (hIv : IvX I A) : GM l D zt (tyX d) yX7_takeFrom wz_k317_X7_takeFrom ({ frames := 1, cells := 0, slots := 0, locals := 21 } : Room) [.ref (q 31), .ref (q 18)] (wX q d I A) (fun v _ w' => ∃ (I' : Nat → Int32) (A' : Nat → Nat → Int32), Md [] I I' ∧ Md [18] A A' ∧ IvX I' A' ∧ v = none ∧ w' = wX q d I' A') 0 0 := by
  refine GM.of (cc := cX7_takeFrom) (maxL := 3) (ret := none) (own := RX7) (lv := [(0, .ref (q 31)), (1, .ref (q 18))]) (by decide) rfl rfl (Nat.le_of_ble_eq_true rfl) rfl (fun κ sz hk hR hN => ?_)
  have hin7 : ∀ w ∈ u_ws RX7 TX7 1, w ∈ wz_k317_X7_takeFrom := fun w h => (List.mem_cons_of_mem _ (List.mem_append_right _ (List.mem_append_left _ h)))
  refine g_iconst (v := 0) hk dX7_takeFrom_0 (by decide) ?_
  refine g_istore_n (lv' := [(2, .int 0), (0, .ref (q 31)), (1, .ref (q 18))]) hk dX7_takeFrom_1 (by decide) rfl ?_
  have lp9909 : ∀ (n9910 : Nat) (x9892 : Int32) (I9895 : Nat → Int32) (A9895 : Nat → Nat → Int32), (Md [] I I9895) → (Md [18] A A9895) → (IvX I9895 A9895) → (0 ≤ x9892.toInt) → (x9892.toInt ≤ 4) → (5 - x9892.toInt < (n9910 : Int)) → (0 < n9910) → GW κ 3 0 0 (wX q d I9895 A9895) 2 [(2, .int x9892), (0, .ref (q 31)), (1, .ref (q 18))] [] := by
    intro n9910
    induction n9910 with
    | zero =>
      intro x9892 I9895 A9895 hI9895 hA9895 hV9895 h9907 h9908 m9911 m9911z
      exact absurd m9911z (Nat.lt_irrefl 0)
    | succ n9910 ih =>
      intro x9892 I9895 A9895 hI9895 hA9895 hV9895 h9907 h9908 m9911 m9911z
      refine g_iload_n hk dX7_takeFrom_2 rfl ?_
      refine g_aload_n hk dX7_takeFrom_3 rfl ?_
      refine gX_r31_0 hk hin7 (List.mem_cons_of_mem _ (List.mem_append_left _ (List.mem_of_getElem? (i := 0) rfl))) dX7_takeFrom_4 ?_
      refine nX_18 hk dX7_takeFrom_7 ?_
      refine g_icmp_ge (tgt := 28) (a := x9892.toInt) (b := 4) hk dX7_takeFrom_8 (by decide) rfl rfl (fun c9912 => ?_) (fun c9912 => ?_)
      · skip
        exact g_vret hk hR ⟨I9895, A9895, (show Md [] I I9895 from (Md.tr Md.rf hI9895 rfl)), (show Md [18] A A9895 from (Md.tr Md.rf hA9895 rfl)), hV9895, rfl, rfl⟩ dX7_takeFrom_28
      · skip
        refine g_aload_n hk dX7_takeFrom_11 rfl ?_
        refine gX_r31_0 hk hin7 (List.mem_cons_of_mem _ (List.mem_append_left _ (List.mem_of_getElem? (i := 0) rfl))) dX7_takeFrom_12 ?_
        refine g_iload_n hk dX7_takeFrom_15 rfl ?_
        refine g_aload_n hk dX7_takeFrom_16 rfl ?_
        refine g_iload_n hk dX7_takeFrom_17 rfl ?_
        refine g_callV (n := 1) hk (k194_X7_valueOf l D zt q d I9895 A9895 x9892 hV9895) (SP.same _) (fun _ h => h) (gi_V (List.mem_cons_of_mem _ (List.mem_append_left _ (List.mem_of_getElem? (i := 1) rfl))) (List.mem_cons_of_mem _ (List.mem_append_left _ (List.mem_of_getElem? (i := 2) rfl))) (List.mem_cons_of_mem _ (List.mem_append_left _ (List.mem_of_getElem? (i := 3) rfl))) (List.mem_cons_of_mem _ (List.mem_append_left _ (List.mem_of_getElem? (i := 4) rfl))) (gi_sub (fun w h => (List.mem_cons_of_mem _ (List.mem_append_right _ (List.mem_append_right _ (List.mem_append_left _ h))))) zg_k194_X7_valueOf)) rfl rfl rfl (by decide +kernel) ⟨Nat.le_of_ble_eq_true rfl, Nat.le_of_ble_eq_true rfl⟩ 18 rfl rfl rfl rfl (Nat.le_of_ble_eq_true rfl) ⟨Nat.le_of_ble_eq_true rfl, Nat.le_of_ble_eq_true rfl⟩ dX7_takeFrom_18 (fun v ty' w' hp hk' => ?_)
        obtain ⟨y9913, rfl, rfl⟩ := hp
        show GW κ 3 0 0 (wX q d I9895 A9895) 21 [(2, .int x9892), (0, .ref (q 31)), (1, .ref (q 18))] [.int y9913, .int x9892, .ref (q 32)]
        refine sX_18 (j := x9892.toNatClampNeg) hk (vp_in_iff.mpr ⟨by omega, by omega⟩) rfl dX7_takeFrom_21 ?_
        obtain ⟨y9914, ey9914⟩ : ∃ y : Int32, y = x9892 + Int32.ofInt 1 := ⟨_, rfl⟩
        have hy9914 : y9914.toInt = x9892.toInt + 1 := i32_add ey9914 rfl (by decide) (by omega) (by omega)
        refine g_iinc (v := y9914) (lv' := [(2, .int y9914), (0, .ref (q 31)), (1, .ref (q 18))]) hk 0 dX7_takeFrom_22 rfl ey9914.symm (by decide) rfl ?_
        refine g_goto (tgt := 2) hk dX7_takeFrom_25 (by decide) ?_
        exact g_lv (List.forall_mem_cons.mpr ⟨List.mem_of_getElem? (i := 0) rfl, (List.forall_mem_cons.mpr ⟨List.mem_of_getElem? (i := 1) rfl, (List.forall_mem_cons.mpr ⟨List.mem_of_getElem? (i := 2) rfl, (fun _ h => absurd h List.not_mem_nil)⟩)⟩)⟩) (ih y9914 I9895 (up3 A9895 18 (x9892.toNatClampNeg) y9913) (show Md [] I I9895 from Md.tr hI9895 (show Md [] I9895 I9895 from Md.rf) rfl) (show Md [18] A (up3 A9895 18 (x9892.toNatClampNeg) y9913) from Md.tr hA9895 (show Md [18] A9895 (up3 A9895 18 (x9892.toNatClampNeg) y9913) from (Md.up3 Md.rf rfl)) rfl) ⟨(IvX_f0 (I := I9895) (A := A9895) hV9895), (IvX_f18 (I := I9895) (A := A9895) hV9895), (IvX_f30 (I := I9895) (A := A9895) hV9895), (IvX_f31 (I := I9895) (A := A9895) hV9895), (IvX_a4 (I := I9895) (A := A9895) hV9895), (IvX_a9 (I := I9895) (A := A9895) hV9895), trivial⟩ (by omega) (by omega) (by omega) (by omega))
  have k9916 : (0 : Int32).toInt = 0 := rfl
  obtain ⟨n9915, n9915a, n9915b⟩ : ∃ n : Nat, 5 - 0 < (n : Int) ∧ 0 < n := ⟨((5 - 0 : Int)).toNat + 1, by omega, by omega⟩
  exact lp9909 n9915 0 I A Md.rf Md.rf hIv (by omega) (by omega) n9915a n9915b
def wo_k319_X8_append : List Cond := [Cond.fieldLink RX8 22 "WarpDesk$Stand" "size" "I", Cond.fieldLink RX8 9 "WarpDesk$Stand" "places" "[I"]
def wz_k319_X8_append : List Cond := .code yX8_append cX8_append 2 none :: (wo_k319_X8_append ++ (wsX80 ++ ([] : List Cond)))
theorem zg_k319_X8_append : ∀ w ∈ wz_k319_X8_append, goodWord w = true := zg_cons rfl (zg_app (by decide +kernel) (zg_app zgU_wsX80 zg_nil))
theorem zi_k319_X8_append : ∀ w ∈ wz_k319_X8_append, w ∈ lw_tbl := zi_cons zw_741 (zi_app (zi_cons zw_195 (zi_cons zw_194 zi_nil)) (zi_app inX8 zi_nil))
set_option maxHeartbeats 4000000 in
set_option maxRecDepth 100000 in
theorem k319_X8_append (l : Launch) (D : va_G) (zt : Nat × Nat × Nat × (Nat → Nat) × (Nat → Nat)) (q : Nat → Nat) (d : Nat → ClassId) (I : Nat → Int32) (A : Nat → Nat → Int32) (z1 : Int32) (hIv : IvX I A) : GM l D zt (tyX d) yX8_append wz_k319_X8_append ({ frames := 0, cells := 0, slots := 0, locals := 0 } : Room) [.ref (q 33), .int z1] (wX q d I A) (fun v _ w' => ∃ (I' : Nat → Int32) (A' : Nat → Nat → Int32), Md [26] I I' ∧ Md [19] A A' ∧ IvX I' A' ∧ v = none ∧ w' = wX q d I' A') 0 0 := by
  refine GM.of (cc := cX8_append) (maxL := 2) (ret := none) (own := RX8) (lv := [(0, .ref (q 33)), (1, .int z1)]) (by decide) rfl rfl (Nat.le_of_ble_eq_true rfl) rfl (fun κ sz hk hR hN => ?_)
  have hin8 : ∀ w ∈ u_ws RX8 TX8 4, w ∈ wz_k319_X8_append := fun w h => (List.mem_cons_of_mem _ (List.mem_append_right _ (List.mem_append_left _ h)))
  refine g_aload_n hk dX8_append_0 rfl ?_
  refine gX_i26 (v := (I 26)) hk hin8 (List.mem_cons_of_mem _ (List.mem_append_left _ (List.mem_of_getElem? (i := 0) rfl))) dX8_append_1 rfl ?_
  have b9928l := Int32.le_toInt (I 26)
  have b9928h := Int32.toInt_lt (I 26)
  refine g_if_lt (tgt := 39) (a := (I 26).toInt) hk dX8_append_4 (by decide) rfl (fun c9929 => ?_) (fun c9929 => ?_)
  · skip
    exact g_vret hk hR ⟨I, A, (show Md [26] I I from Md.rf), (show Md [19] A A from Md.rf), hIv, rfl, rfl⟩ dX8_append_39
  · skip
    refine g_aload_n hk dX8_append_7 rfl ?_
    refine gX_i26 (v := (I 26)) hk hin8 (List.mem_cons_of_mem _ (List.mem_append_left _ (List.mem_of_getElem? (i := 0) rfl))) dX8_append_8 rfl ?_
    refine g_aload_n hk dX8_append_11 rfl ?_
    refine gX_r33_0 hk hin8 (List.mem_cons_of_mem _ (List.mem_append_left _ (List.mem_of_getElem? (i := 1) rfl))) dX8_append_12 ?_
    refine nX_19 hk dX8_append_15 ?_
    refine g_icmp_ge (tgt := 39) (a := (I 26).toInt) (b := 160) hk dX8_append_16 (by decide) rfl rfl (fun c9930 => ?_) (fun c9930 => ?_)
    · skip
      exact g_vret hk hR ⟨I, A, (show Md [26] I I from Md.rf), (show Md [19] A A from Md.rf), hIv, rfl, rfl⟩ dX8_append_39
    · skip
      refine g_aload_n hk dX8_append_19 rfl ?_
      refine gX_r33_0 hk hin8 (List.mem_cons_of_mem _ (List.mem_append_left _ (List.mem_of_getElem? (i := 1) rfl))) dX8_append_20 ?_
      refine g_aload_n hk dX8_append_23 rfl ?_
      refine gX_i26 (v := (I 26)) hk hin8 (List.mem_cons_of_mem _ (List.mem_append_left _ (List.mem_of_getElem? (i := 0) rfl))) dX8_append_24 rfl ?_
      refine g_iload_n hk dX8_append_27 rfl ?_
      refine sX_19 (j := (I 26).toNatClampNeg) hk (vp_in_iff.mpr ⟨by omega, by omega⟩) rfl dX8_append_28 ?_
      refine g_aload_n hk dX8_append_29 rfl ?_
      refine g_dup hk dX8_append_30 rfl ?_
      refine gX_i26 (v := (I 26)) hk hin8 (List.mem_cons_of_mem _ (List.mem_append_left _ (List.mem_of_getElem? (i := 0) rfl))) dX8_append_31 rfl ?_
      refine g_iconst (v := 1) hk dX8_append_34 (by decide) ?_
      refine g_iadd hk dX8_append_35 ?_
      refine g_topi (fun y9931 ey9931 => ?_)
      have hy9931 : y9931.toInt = (I 26).toInt + 1 := i32_add ey9931 rfl rfl (by omega) (by omega)
      refine pX_i26 hk hin8 (List.mem_cons_of_mem _ (List.mem_append_left _ (List.mem_of_getElem? (i := 0) rfl))) dX8_append_36 ?_
      exact g_vret hk hR ⟨(upd I 26 y9931), (up3 A 19 ((I 26).toNatClampNeg) z1), (show Md [26] I (upd I 26 y9931) from (Md.up Md.rf rfl)), (show Md [19] A (up3 A 19 ((I 26).toNatClampNeg) z1) from (Md.up3 Md.rf rfl)), ⟨(IvX_f0 (I := I) (A := A) hIv), (IvX_f18 (I := I) (A := A) hIv), (IvX_f30 (I := I) (A := A) hIv), (IvX_f31 (I := I) (A := A) hIv), (IvX_a4 (I := I) (A := A) hIv), (IvX_a9 (I := I) (A := A) hIv), trivial⟩, rfl, rfl⟩ dX8_append_39
def wo_k318_X6_copyInto : List Cond := [Cond.fieldLink RX6 22 "WarpDesk$Stand" "size" "I", Cond.fieldLink RX6 19 "WarpDesk$Series" "size" "I", Cond.methodLink RX6 33 yX6_valueAt, Cond.instanceMethod yX6_valueAt, Cond.selects RX6 yX6_valueAt yX6_valueAt, Cond.initialized RX6, Cond.methodLink RX6 34 yX8_append, Cond.instanceMethod yX8_append, Cond.selects RX8 yX8_append yX8_append, Cond.initialized RX8]
def wz_k318_X6_copyInto : List Cond := .code yX6_copyInto cX6_copyInto 3 none :: (wo_k318_X6_copyInto ++ (wsX60 ++ (wsX80 ++ (wz_k179_X6_valueAt ++ (wz_k319_X8_append ++ ([] : List Cond))))))
theorem zg_k318_X6_copyInto : ∀ w ∈ wz_k318_X6_copyInto, goodWord w = true := zg_cons rfl (zg_app (by decide +kernel) (zg_app zgU_wsX60 (zg_app zgU_wsX80 (zg_app zg_k179_X6_valueAt (zg_app zg_k319_X8_append zg_nil)))))
theorem zi_k318_X6_copyInto : ∀ w ∈ wz_k318_X6_copyInto, w ∈ lw_tbl := zi_cons zw_1333 (zi_app (zi_cons zw_196 (zi_cons zw_282 (zi_cons zw_843 (zi_cons zw_807 (zi_cons zw_808 (zi_cons zw_109 (zi_cons zw_1334 (zi_cons zw_739 (zi_cons zw_740 (zi_cons zw_106 zi_nil)))))))))) (zi_app inX6 (zi_app inX8 (zi_app zi_k179_X6_valueAt (zi_app zi_k319_X8_append zi_nil)))))
set_option maxHeartbeats 4000000 in
set_option maxRecDepth 100000 in
theorem k318_X6_copyInto (l : Launch) (D : va_G) (zt : Nat × Nat × Nat × (Nat → Nat) × (Nat → Nat)) (q : Nat → Nat) (d : Nat → ClassId) (I : Nat → Int32) (A : Nat → Nat → Int32) (hIv : IvX I A) : GM l D zt (tyX d) yX6_copyInto wz_k318_X6_copyInto ({ frames := 1, cells := 0, slots := 0, locals := 21 } : Room) [.ref (q 13), .ref (q 33)] (wX q d I A) (fun v _ w' => ∃ (I' : Nat → Int32) (A' : Nat → Nat → Int32), Md [26] I I' ∧ Md [19] A A' ∧ IvX I' A' ∧ v = none ∧ w' = wX q d I' A') 0 0 := by
  refine GM.of (cc := cX6_copyInto) (maxL := 3) (ret := none) (own := RX6) (lv := [(0, .ref (q 13)), (1, .ref (q 33))]) (by decide) rfl rfl (Nat.le_of_ble_eq_true rfl) rfl (fun κ sz hk hR hN => ?_)
  have hin6 : ∀ w ∈ u_ws RX6 TX6 3, w ∈ wz_k318_X6_copyInto := fun w h => (List.mem_cons_of_mem _ (List.mem_append_right _ (List.mem_append_left _ h)))
  have hin8 : ∀ w ∈ u_ws RX8 TX8 4, w ∈ wz_k318_X6_copyInto := fun w h => (List.mem_cons_of_mem _ (List.mem_append_right _ (List.mem_append_right _ (List.mem_append_left _ h))))
  refine g_aload_n hk dX6_copyInto_0 rfl ?_
  refine g_iconst (v := 0) hk dX6_copyInto_1 (by decide) ?_
  refine pX_i26 hk hin8 (List.mem_cons_of_mem _ (List.mem_append_left _ (List.mem_of_getElem? (i := 0) rfl))) dX6_copyInto_2 ?_
  refine g_iconst (v := 0) hk dX6_copyInto_5 (by decide) ?_
  refine g_istore_n (lv' := [(2, .int 0), (0, .ref (q 13)), (1, .ref (q 33))]) hk dX6_copyInto_6 (by decide) rfl ?_
  have lp9955 : ∀ (n9956 : Nat) (x9920 : Int32) (I9923 : Nat → Int32) (A9923 : Nat → Nat → Int32), (Md [26] (upd I 26 0) I9923) → (Md [19] A A9923) → (IvX I9923 A9923) → (0 ≤ x9920.toInt) → (x9920.toInt ≤ 160) → (161 - x9920.toInt < (n9956 : Int)) → (0 < n9956) → GW κ 3 0 0 (wX q d I9923 A9923) 7 [(2, .int x9920), (0, .ref (q 13)), (1, .ref (q 33))] [] := by
    intro n9956
    induction n9956 with
    | zero =>
      intro x9920 I9923 A9923 hI9923 hA9923 hV9923 h9953 h9954 m9957 m9957z
      exact absurd m9957z (Nat.lt_irrefl 0)
    | succ n9956 ih =>
      intro x9920 I9923 A9923 hI9923 hA9923 hV9923 h9953 h9954 m9957 m9957z
      refine g_iload_n hk dX6_copyInto_7 rfl ?_
      refine g_aload_n hk dX6_copyInto_8 rfl ?_
      refine gX_i18 (v := (I 18)) hk hin6 (List.mem_cons_of_mem _ (List.mem_append_left _ (List.mem_of_getElem? (i := 1) rfl))) dX6_copyInto_9 (hI9923 18 rfl) ?_
      have f9958 := IvX_f18 hIv
      refine g_icmp_ge (tgt := 30) (a := x9920.toInt) (b := (I 18).toInt) hk dX6_copyInto_12 (by decide) rfl rfl (fun c9959 => ?_) (fun c9959 => ?_)
      · skip
        exact g_vret hk hR ⟨I9923, A9923, (show Md [26] I I9923 from (Md.tr (Md.up Md.rf rfl) hI9923 rfl)), (show Md [19] A A9923 from (Md.tr Md.rf hA9923 rfl)), hV9923, rfl, rfl⟩ dX6_copyInto_30
      · skip
        refine g_aload_n hk dX6_copyInto_15 rfl ?_
        refine g_aload_n hk dX6_copyInto_16 rfl ?_
        refine g_iload_n hk dX6_copyInto_17 rfl ?_
        refine g_callV (n := 1) hk (k179_X6_valueAt l D zt q d I9923 A9923 x9920 hV9923) (SP.same _) (fun _ h => h) (gi_V (List.mem_cons_of_mem _ (List.mem_append_left _ (List.mem_of_getElem? (i := 2) rfl))) (List.mem_cons_of_mem _ (List.mem_append_left _ (List.mem_of_getElem? (i := 3) rfl))) (List.mem_cons_of_mem _ (List.mem_append_left _ (List.mem_of_getElem? (i := 4) rfl))) (List.mem_cons_of_mem _ (List.mem_append_left _ (List.mem_of_getElem? (i := 5) rfl))) (gi_sub (fun w h => (List.mem_cons_of_mem _ (List.mem_append_right _ (List.mem_append_right _ (List.mem_append_right _ (List.mem_append_left _ h)))))) zg_k179_X6_valueAt)) rfl rfl rfl (by decide +kernel) ⟨Nat.le_of_ble_eq_true rfl, Nat.le_of_ble_eq_true rfl⟩ 13 rfl rfl rfl rfl (Nat.le_of_ble_eq_true rfl) ⟨Nat.le_of_ble_eq_true rfl, Nat.le_of_ble_eq_true rfl⟩ dX6_copyInto_18 (fun v ty' w' hp hk' => ?_)
        obtain ⟨y9960, rfl, rfl⟩ := hp
        show GW κ 3 0 0 (wX q d I9923 A9923) 21 [(2, .int x9920), (0, .ref (q 13)), (1, .ref (q 33))] [.int y9960, .ref (q 33)]
        refine g_callV (n := 1) hk (k319_X8_append l D zt q d I9923 A9923 y9960 hV9923) (SP.same _) (fun _ h => h) (gi_V (List.mem_cons_of_mem _ (List.mem_append_left _ (List.mem_of_getElem? (i := 6) rfl))) (List.mem_cons_of_mem _ (List.mem_append_left _ (List.mem_of_getElem? (i := 7) rfl))) (List.mem_cons_of_mem _ (List.mem_append_left _ (List.mem_of_getElem? (i := 8) rfl))) (List.mem_cons_of_mem _ (List.mem_append_left _ (List.mem_of_getElem? (i := 9) rfl))) (gi_sub (fun w h => (List.mem_cons_of_mem _ (List.mem_append_right _ (List.mem_append_right _ (List.mem_append_right _ (List.mem_append_right _ (List.mem_append_left _ h))))))) zg_k319_X8_append)) rfl rfl rfl (by decide +kernel) ⟨Nat.le_of_ble_eq_true rfl, Nat.le_of_ble_eq_true rfl⟩ 33 rfl rfl rfl rfl (Nat.le_of_ble_eq_true rfl) ⟨Nat.le_of_ble_eq_true rfl, Nat.le_of_ble_eq_true rfl⟩ dX6_copyInto_21 (fun v ty' w' hp hk' => ?_)
        obtain ⟨I9962, A9962, hI9962, hA9962, hV9962, rfl, rfl⟩ := hp
        show GW κ 3 0 0 (wX q d I9962 A9962) 24 [(2, .int x9920), (0, .ref (q 13)), (1, .ref (q 33))] []
        obtain ⟨y9963, ey9963⟩ : ∃ y : Int32, y = x9920 + Int32.ofInt 1 := ⟨_, rfl⟩
        have hy9963 : y9963.toInt = x9920.toInt + 1 := i32_add ey9963 rfl (by decide) (by omega) (by omega)
        refine g_iinc (v := y9963) (lv' := [(2, .int y9963), (0, .ref (q 13)), (1, .ref (q 33))]) hk 0 dX6_copyInto_24 rfl ey9963.symm (by decide) rfl ?_
        refine g_goto (tgt := 7) hk dX6_copyInto_27 (by decide) ?_
        exact g_lv (List.forall_mem_cons.mpr ⟨List.mem_of_getElem? (i := 0) rfl, (List.forall_mem_cons.mpr ⟨List.mem_of_getElem? (i := 1) rfl, (List.forall_mem_cons.mpr ⟨List.mem_of_getElem? (i := 2) rfl, (fun _ h => absurd h List.not_mem_nil)⟩)⟩)⟩) (ih y9963 I9962 A9962 (show Md [26] (upd I 26 0) I9962 from Md.tr hI9923 (show Md [26] I9923 I9962 from (Md.tr Md.rf hI9962 rfl)) rfl) (show Md [19] A A9962 from Md.tr hA9923 (show Md [19] A9923 A9962 from (Md.tr Md.rf hA9962 rfl)) rfl) hV9962 (by omega) (by omega) (by omega) (by omega))
  have k9965 : (0 : Int32).toInt = 0 := rfl
  obtain ⟨n9964, n9964a, n9964b⟩ : ∃ n : Nat, 161 - 0 < (n : Int) ∧ 0 < n := ⟨((161 - 0 : Int)).toNat + 1, by omega, by omega⟩
  exact lp9955 n9964 0 (upd I 26 0) A Md.rf Md.rf ⟨(IvX_f0 (I := I) (A := A) hIv), (IvX_f18 (I := I) (A := A) hIv), (IvX_f30 (I := I) (A := A) hIv), (IvX_f31 (I := I) (A := A) hIv), (IvX_a4 (I := I) (A := A) hIv), (IvX_a9 (I := I) (A := A) hIv), trivial⟩ (by omega) (by omega) n9964a n9964b
def wo_k320_X7_takeFrom : List Cond := [Cond.fieldLink RX7 20 "WarpDesk$Settings" "values" "[I", Cond.methodLink RX7 33 yX7_valueOf, Cond.instanceMethod yX7_valueOf, Cond.selects RX7 yX7_valueOf yX7_valueOf, Cond.initialized RX7]
def wz_k320_X7_takeFrom : List Cond := .code yX7_takeFrom cX7_takeFrom 3 none :: (wo_k320_X7_takeFrom ++ (wsX70 ++ (wz_k194_X7_valueOf ++ ([] : List Cond))))
theorem zg_k320_X7_takeFrom : ∀ w ∈ wz_k320_X7_takeFrom, goodWord w = true := zg_cons rfl (zg_app (by decide +kernel) (zg_app zgU_wsX70 (zg_app zg_k194_X7_valueOf zg_nil)))
theorem zi_k320_X7_takeFrom : ∀ w ∈ wz_k320_X7_takeFrom, w ∈ lw_tbl := zi_cons zw_784 (zi_app (zi_cons zw_190 (zi_cons zw_785 (zi_cons zw_786 (zi_cons zw_787 (zi_cons zw_107 zi_nil))))) (zi_app inX7 (zi_app zi_k194_X7_valueOf zi_nil)))
set_option maxHeartbeats 4000000 in
set_option maxRecDepth 100000 in
theorem k320_X7_takeFrom (l : Launch) (D : va_G) (zt : Nat × Nat × Nat × (Nat → Nat) × (Nat → Nat)) (q : Nat → Nat) (d : Nat → ClassId) (I : Nat → Int32) (A : Nat → Nat → Int32) (hIv : IvX I A) : GM l D zt (tyX d) yX7_takeFrom wz_k320_X7_takeFrom ({ frames := 1, cells := 0, slots := 0, locals := 21 } : Room) [.ref (q 35), .ref (q 18)] (wX q d I A) (fun v _ w' => ∃ (I' : Nat → Int32) (A' : Nat → Nat → Int32), Md [] I I' ∧ Md [20] A A' ∧ IvX I' A' ∧ v = none ∧ w' = wX q d I' A') 0 0 := by
  refine GM.of (cc := cX7_takeFrom) (maxL := 3) (ret := none) (own := RX7) (lv := [(0, .ref (q 35)), (1, .ref (q 18))]) (by decide) rfl rfl (Nat.le_of_ble_eq_true rfl) rfl (fun κ sz hk hR hN => ?_)
  have hin7 : ∀ w ∈ u_ws RX7 TX7 1, w ∈ wz_k320_X7_takeFrom := fun w h => (List.mem_cons_of_mem _ (List.mem_append_right _ (List.mem_append_left _ h)))
  refine g_iconst (v := 0) hk dX7_takeFrom_0 (by decide) ?_
  refine g_istore_n (lv' := [(2, .int 0), (0, .ref (q 35)), (1, .ref (q 18))]) hk dX7_takeFrom_1 (by decide) rfl ?_
  have lp9985 : ∀ (n9986 : Nat) (x9968 : Int32) (I9971 : Nat → Int32) (A9971 : Nat → Nat → Int32), (Md [] I I9971) → (Md [20] A A9971) → (IvX I9971 A9971) → (0 ≤ x9968.toInt) → (x9968.toInt ≤ 4) → (5 - x9968.toInt < (n9986 : Int)) → (0 < n9986) → GW κ 3 0 0 (wX q d I9971 A9971) 2 [(2, .int x9968), (0, .ref (q 35)), (1, .ref (q 18))] [] := by
    intro n9986
    induction n9986 with
    | zero =>
      intro x9968 I9971 A9971 hI9971 hA9971 hV9971 h9983 h9984 m9987 m9987z
      exact absurd m9987z (Nat.lt_irrefl 0)
    | succ n9986 ih =>
      intro x9968 I9971 A9971 hI9971 hA9971 hV9971 h9983 h9984 m9987 m9987z
      refine g_iload_n hk dX7_takeFrom_2 rfl ?_
      refine g_aload_n hk dX7_takeFrom_3 rfl ?_
      refine gX_r35_0 hk hin7 (List.mem_cons_of_mem _ (List.mem_append_left _ (List.mem_of_getElem? (i := 0) rfl))) dX7_takeFrom_4 ?_
      refine nX_20 hk dX7_takeFrom_7 ?_
      refine g_icmp_ge (tgt := 28) (a := x9968.toInt) (b := 4) hk dX7_takeFrom_8 (by decide) rfl rfl (fun c9988 => ?_) (fun c9988 => ?_)
      · skip
        exact g_vret hk hR ⟨I9971, A9971, (show Md [] I I9971 from (Md.tr Md.rf hI9971 rfl)), (show Md [20] A A9971 from (Md.tr Md.rf hA9971 rfl)), hV9971, rfl, rfl⟩ dX7_takeFrom_28
      · skip
        refine g_aload_n hk dX7_takeFrom_11 rfl ?_
        refine gX_r35_0 hk hin7 (List.mem_cons_of_mem _ (List.mem_append_left _ (List.mem_of_getElem? (i := 0) rfl))) dX7_takeFrom_12 ?_
        refine g_iload_n hk dX7_takeFrom_15 rfl ?_
        refine g_aload_n hk dX7_takeFrom_16 rfl ?_
        refine g_iload_n hk dX7_takeFrom_17 rfl ?_
        refine g_callV (n := 1) hk (k194_X7_valueOf l D zt q d I9971 A9971 x9968 hV9971) (SP.same _) (fun _ h => h) (gi_V (List.mem_cons_of_mem _ (List.mem_append_left _ (List.mem_of_getElem? (i := 1) rfl))) (List.mem_cons_of_mem _ (List.mem_append_left _ (List.mem_of_getElem? (i := 2) rfl))) (List.mem_cons_of_mem _ (List.mem_append_left _ (List.mem_of_getElem? (i := 3) rfl))) (List.mem_cons_of_mem _ (List.mem_append_left _ (List.mem_of_getElem? (i := 4) rfl))) (gi_sub (fun w h => (List.mem_cons_of_mem _ (List.mem_append_right _ (List.mem_append_right _ (List.mem_append_left _ h))))) zg_k194_X7_valueOf)) rfl rfl rfl (by decide +kernel) ⟨Nat.le_of_ble_eq_true rfl, Nat.le_of_ble_eq_true rfl⟩ 18 rfl rfl rfl rfl (Nat.le_of_ble_eq_true rfl) ⟨Nat.le_of_ble_eq_true rfl, Nat.le_of_ble_eq_true rfl⟩ dX7_takeFrom_18 (fun v ty' w' hp hk' => ?_)
        obtain ⟨y9989, rfl, rfl⟩ := hp
        show GW κ 3 0 0 (wX q d I9971 A9971) 21 [(2, .int x9968), (0, .ref (q 35)), (1, .ref (q 18))] [.int y9989, .int x9968, .ref (q 36)]
        refine sX_20 (j := x9968.toNatClampNeg) hk (vp_in_iff.mpr ⟨by omega, by omega⟩) rfl dX7_takeFrom_21 ?_
        obtain ⟨y9990, ey9990⟩ : ∃ y : Int32, y = x9968 + Int32.ofInt 1 := ⟨_, rfl⟩
        have hy9990 : y9990.toInt = x9968.toInt + 1 := i32_add ey9990 rfl (by decide) (by omega) (by omega)
        refine g_iinc (v := y9990) (lv' := [(2, .int y9990), (0, .ref (q 35)), (1, .ref (q 18))]) hk 0 dX7_takeFrom_22 rfl ey9990.symm (by decide) rfl ?_
        refine g_goto (tgt := 2) hk dX7_takeFrom_25 (by decide) ?_
        exact g_lv (List.forall_mem_cons.mpr ⟨List.mem_of_getElem? (i := 0) rfl, (List.forall_mem_cons.mpr ⟨List.mem_of_getElem? (i := 1) rfl, (List.forall_mem_cons.mpr ⟨List.mem_of_getElem? (i := 2) rfl, (fun _ h => absurd h List.not_mem_nil)⟩)⟩)⟩) (ih y9990 I9971 (up3 A9971 20 (x9968.toNatClampNeg) y9989) (show Md [] I I9971 from Md.tr hI9971 (show Md [] I9971 I9971 from Md.rf) rfl) (show Md [20] A (up3 A9971 20 (x9968.toNatClampNeg) y9989) from Md.tr hA9971 (show Md [20] A9971 (up3 A9971 20 (x9968.toNatClampNeg) y9989) from (Md.up3 Md.rf rfl)) rfl) ⟨(IvX_f0 (I := I9971) (A := A9971) hV9971), (IvX_f18 (I := I9971) (A := A9971) hV9971), (IvX_f30 (I := I9971) (A := A9971) hV9971), (IvX_f31 (I := I9971) (A := A9971) hV9971), (IvX_a4 (I := I9971) (A := A9971) hV9971), (IvX_a9 (I := I9971) (A := A9971) hV9971), trivial⟩ (by omega) (by omega) (by omega) (by omega))
  have k9992 : (0 : Int32).toInt = 0 := rfl
  obtain ⟨n9991, n9991a, n9991b⟩ : ∃ n : Nat, 5 - 0 < (n : Int) ∧ 0 < n := ⟨((5 - 0 : Int)).toNat + 1, by omega, by omega⟩
  exact lp9985 n9991 0 I A Md.rf Md.rf hIv (by omega) (by omega) n9991a n9991b
def wo_k311_X11_hold : List Cond := [Cond.fieldLink RX11 56 "WarpDesk" "slots" "[LWarpDesk$Stand;", Cond.fieldLink RX11 28 "WarpDesk" "series" "LWarpDesk$Series;", Cond.methodLink RX11 362 yX6_copyInto, Cond.instanceMethod yX6_copyInto, Cond.selects RX6 yX6_copyInto yX6_copyInto, Cond.initialized RX6, Cond.fieldLink RX11 365 "WarpDesk$Stand" "settings" "LWarpDesk$Settings;", Cond.fieldLink RX11 42 "WarpDesk" "settings" "LWarpDesk$Settings;", Cond.methodLink RX11 366 yX7_takeFrom, Cond.instanceMethod yX7_takeFrom, Cond.selects RX7 yX7_takeFrom yX7_takeFrom, Cond.initialized RX7, Cond.fieldLink RX11 110 "WarpDesk$Stand" "held" "Z"]
def wz_k311_X11_hold : List Cond := .code yX11_hold cX11_hold 3 (some .boolean) :: (wo_k311_X11_hold ++ (wsX80 ++ (wsX110 ++ (wz_k312_X6_copyInto ++ (wz_k314_X7_takeFrom ++ (wz_k315_X6_copyInto ++ (wz_k317_X7_takeFrom ++ (wz_k318_X6_copyInto ++ (wz_k320_X7_takeFrom ++ ([] : List Cond))))))))))
theorem zg_k311_X11_hold : ∀ w ∈ wz_k311_X11_hold, goodWord w = true := zg_cons rfl (zg_app (by decide +kernel) (zg_app zgU_wsX80 (zg_app zgU_wsX110 (zg_app zg_k312_X6_copyInto (zg_app zg_k314_X7_takeFrom (zg_app zg_k315_X6_copyInto (zg_app zg_k317_X7_takeFrom (zg_app zg_k318_X6_copyInto (zg_app zg_k320_X7_takeFrom zg_nil)))))))))
theorem zi_k311_X11_hold : ∀ w ∈ wz_k311_X11_hold, w ∈ lw_tbl := zi_cons zw_1329 (zi_app (zi_cons zw_493 (zi_cons zw_489 (zi_cons zw_1330 (zi_cons zw_1331 (zi_cons zw_1332 (zi_cons zw_109 (zi_cons zw_200 (zi_cons zw_491 (zi_cons zw_781 (zi_cons zw_782 (zi_cons zw_783 (zi_cons zw_107 (zi_cons zw_201 zi_nil))))))))))))) (zi_app inX8 (zi_app inX11 (zi_app zi_k312_X6_copyInto (zi_app zi_k314_X7_takeFrom (zi_app zi_k315_X6_copyInto (zi_app zi_k317_X7_takeFrom (zi_app zi_k318_X6_copyInto (zi_app zi_k320_X7_takeFrom zi_nil)))))))))
set_option maxHeartbeats 4000000 in
set_option maxRecDepth 100000 in
theorem k311_X11_hold (l : Launch) (D : va_G) (zt : Nat × Nat × Nat × (Nat → Nat) × (Nat → Nat)) (q : Nat → Nat) (d : Nat → ClassId) (I : Nat → Int32) (A : Nat → Nat → Int32) (z1 : Int32) (hIv : IvX I A) : GM l D zt (tyX d) yX11_hold wz_k311_X11_hold ({ frames := 2, cells := 0, slots := 0, locals := 43 } : Room) [.ref (q 0), .int z1] (wX q d I A) (fun v _ w' => ∃ (I' : Nat → Int32) (A' : Nat → Nat → Int32), Md [22, 23, 24, 25, 26, 27] I I' ∧ Md [15, 16, 17, 18, 19, 20] A A' ∧ IvX I' A' ∧ ∃ y0 : Int32, (0 ≤ y0.toInt) ∧ (y0.toInt ≤ 1) ∧ v = some (.int y0) ∧ w' = wX q d I' A') 0 0 := by
  refine GM.of (cc := cX11_hold) (maxL := 3) (ret := (some .boolean)) (own := RX11) (lv := [(0, .ref (q 0)), (1, .int z1)]) (by decide) rfl rfl (Nat.le_of_ble_eq_true rfl) rfl (fun κ sz hk hR hN => ?_)
  have hin8 : ∀ w ∈ u_ws RX8 TX8 4, w ∈ wz_k311_X11_hold := fun w h => (List.mem_cons_of_mem _ (List.mem_append_right _ (List.mem_append_left _ h)))
  have hin11 : ∀ w ∈ u_ws RX11 TX11 10, w ∈ wz_k311_X11_hold := fun w h => (List.mem_cons_of_mem _ (List.mem_append_right _ (List.mem_append_right _ (List.mem_append_left _ h))))
  refine g_iload_n hk dX11_hold_0 rfl ?_
  have b9764l := Int32.le_toInt z1
  have b9764h := Int32.toInt_lt z1
  refine g_if_lt (tgt := 13) (a := z1.toInt) hk dX11_hold_1 (by decide) rfl (fun c9765 => ?_) (fun c9765 => ?_)
  · skip
    refine g_iconst (v := 0) hk dX11_hold_13 (by decide) ?_
    exact g_iret hk hR rfl ⟨I, A, (show Md [22, 23, 24, 25, 26, 27] I I from Md.rf), (show Md [15, 16, 17, 18, 19, 20] A A from Md.rf), hIv, 0, (by decide), (by decide), rfl, rfl⟩ dX11_hold_14
  · skip
    refine g_iload_n hk dX11_hold_4 rfl ?_
    refine g_aload_n hk dX11_hold_5 rfl ?_
    refine gX_r0_6 hk hin11 (List.mem_cons_of_mem _ (List.mem_append_left _ (List.mem_of_getElem? (i := 0) rfl))) dX11_hold_6 ?_
    refine nX_14 hk dX11_hold_9 ?_
    refine g_icmp_lt (tgt := 15) (a := z1.toInt) (b := 3) hk dX11_hold_10 (by decide) rfl rfl (fun c9766 => ?_) (fun c9766 => ?_)
    · skip
      refine g_aload_n hk dX11_hold_15 rfl ?_
      refine gX_r0_6 hk hin11 (List.mem_cons_of_mem _ (List.mem_append_left _ (List.mem_of_getElem? (i := 0) rfl))) dX11_hold_16 ?_
      refine g_iload_n hk dX11_hold_19 rfl ?_
      by_cases c9767 : z1.toInt = 0
      · have ec9767 : z1 = 0 := Int32.toInt_inj.mp c9767
        rw [ec9767]
        show GW κ 3 0 0 (wX q d I A) 20 [(0, .ref (q 0)), (1, .int 0)] [.int 0, .ref (q 24)]
        refine lX_14 hk (vp_in_iff.mpr ⟨by decide, by decide⟩) rfl dX11_hold_20 ?_
        refine g_astore_n (lv' := [(2, .ref (q 25)), (0, .ref (q 0)), (1, .int 0)]) hk dX11_hold_21 (by decide) rfl ?_
        refine g_aload_n hk dX11_hold_22 rfl ?_
        refine gX_r0_2 hk hin11 (List.mem_cons_of_mem _ (List.mem_append_left _ (List.mem_of_getElem? (i := 1) rfl))) dX11_hold_23 ?_
        refine g_aload_n hk dX11_hold_26 rfl ?_
        refine g_callV (n := 1) hk (k312_X6_copyInto l D zt q d I A  hIv) (SP.same _) (fun _ h => h) (gi_V (List.mem_cons_of_mem _ (List.mem_append_left _ (List.mem_of_getElem? (i := 2) rfl))) (List.mem_cons_of_mem _ (List.mem_append_left _ (List.mem_of_getElem? (i := 3) rfl))) (List.mem_cons_of_mem _ (List.mem_append_left _ (List.mem_of_getElem? (i := 4) rfl))) (List.mem_cons_of_mem _ (List.mem_append_left _ (List.mem_of_getElem? (i := 5) rfl))) (gi_sub (fun w h => (List.mem_cons_of_mem _ (List.mem_append_right _ (List.mem_append_right _ (List.mem_append_right _ (List.mem_append_left _ h)))))) zg_k312_X6_copyInto)) rfl rfl rfl (by decide +kernel) ⟨Nat.le_of_ble_eq_true rfl, Nat.le_of_ble_eq_true rfl⟩ 13 rfl rfl rfl rfl (Nat.le_of_ble_eq_true rfl) ⟨Nat.le_of_ble_eq_true rfl, Nat.le_of_ble_eq_true rfl⟩ dX11_hold_27 (fun v ty' w' hp hk' => ?_)
        obtain ⟨I9815, A9815, hI9815, hA9815, hV9815, rfl, rfl⟩ := hp
        show GW κ 3 0 0 (wX q d I9815 A9815) 30 [(2, .ref (q 25)), (0, .ref (q 0)), (1, .int 0)] []
        refine g_aload_n hk dX11_hold_30 rfl ?_
        refine gX_r25_2 hk hin8 (List.mem_cons_of_mem _ (List.mem_append_left _ (List.mem_of_getElem? (i := 6) rfl))) dX11_hold_31 ?_
        refine g_aload_n hk dX11_hold_34 rfl ?_
        refine gX_r0_4 hk hin11 (List.mem_cons_of_mem _ (List.mem_append_left _ (List.mem_of_getElem? (i := 7) rfl))) dX11_hold_35 ?_
        refine g_callV (n := 1) hk (k314_X7_takeFrom l D zt q d I9815 A9815  hV9815) (SP.same _) (fun _ h => h) (gi_V (List.mem_cons_of_mem _ (List.mem_append_left _ (List.mem_of_getElem? (i := 8) rfl))) (List.mem_cons_of_mem _ (List.mem_append_left _ (List.mem_of_getElem? (i := 9) rfl))) (List.mem_cons_of_mem _ (List.mem_append_left _ (List.mem_of_getElem? (i := 10) rfl))) (List.mem_cons_of_mem _ (List.mem_append_left _ (List.mem_of_getElem? (i := 11) rfl))) (gi_sub (fun w h => (List.mem_cons_of_mem _ (List.mem_append_right _ (List.mem_append_right _ (List.mem_append_right _ (List.mem_append_right _ (List.mem_append_left _ h))))))) zg_k314_X7_takeFrom)) rfl rfl rfl (by decide +kernel) ⟨Nat.le_of_ble_eq_true rfl, Nat.le_of_ble_eq_true rfl⟩ 27 rfl rfl rfl rfl (Nat.le_of_ble_eq_true rfl) ⟨Nat.le_of_ble_eq_true rfl, Nat.le_of_ble_eq_true rfl⟩ dX11_hold_38 (fun v ty' w' hp hk' => ?_)
        obtain ⟨I9842, A9842, hI9842, hA9842, hV9842, rfl, rfl⟩ := hp
        show GW κ 3 0 0 (wX q d I9842 A9842) 41 [(2, .ref (q 25)), (0, .ref (q 0)), (1, .int 0)] []
        refine g_aload_n hk dX11_hold_41 rfl ?_
        refine g_iconst (v := 1) hk dX11_hold_42 (by decide) ?_
        refine pX_i23 hk hin8 (List.mem_cons_of_mem _ (List.mem_append_left _ (List.mem_of_getElem? (i := 12) rfl))) ⟨rfl, rfl⟩ dX11_hold_43 ?_
        refine g_iconst (v := 1) hk dX11_hold_46 (by decide) ?_
        exact g_iret hk hR rfl ⟨(upd I9842 23 1), A9842, (show Md [22, 23, 24, 25, 26, 27] I (upd I9842 23 1) from (Md.up (Md.tr (Md.tr Md.rf hI9815 rfl) hI9842 rfl) rfl)), (show Md [15, 16, 17, 18, 19, 20] A A9842 from (Md.tr (Md.tr Md.rf hA9815 rfl) hA9842 rfl)), ⟨(IvX_f0 (I := I9842) (A := A9842) hV9842), (IvX_f18 (I := I9842) (A := A9842) hV9842), (IvX_f30 (I := I9842) (A := A9842) hV9842), (IvX_f31 (I := I9842) (A := A9842) hV9842), (IvX_a4 (I := I9842) (A := A9842) hV9842), (IvX_a9 (I := I9842) (A := A9842) hV9842), trivial⟩, 1, (by decide), (by decide), rfl, rfl⟩ dX11_hold_47
      by_cases c9843 : z1.toInt = 1
      · have ec9843 : z1 = 1 := Int32.toInt_inj.mp c9843
        rw [ec9843]
        show GW κ 3 0 0 (wX q d I A) 20 [(0, .ref (q 0)), (1, .int 1)] [.int 1, .ref (q 24)]
        refine lX_14 hk (vp_in_iff.mpr ⟨by decide, by decide⟩) rfl dX11_hold_20 ?_
        refine g_astore_n (lv' := [(2, .ref (q 29)), (0, .ref (q 0)), (1, .int 1)]) hk dX11_hold_21 (by decide) rfl ?_
        refine g_aload_n hk dX11_hold_22 rfl ?_
        refine gX_r0_2 hk hin11 (List.mem_cons_of_mem _ (List.mem_append_left _ (List.mem_of_getElem? (i := 1) rfl))) dX11_hold_23 ?_
        refine g_aload_n hk dX11_hold_26 rfl ?_
        refine g_callV (n := 1) hk (k315_X6_copyInto l D zt q d I A  hIv) (SP.same _) (fun _ h => h) (gi_V (List.mem_cons_of_mem _ (List.mem_append_left _ (List.mem_of_getElem? (i := 2) rfl))) (List.mem_cons_of_mem _ (List.mem_append_left _ (List.mem_of_getElem? (i := 3) rfl))) (List.mem_cons_of_mem _ (List.mem_append_left _ (List.mem_of_getElem? (i := 4) rfl))) (List.mem_cons_of_mem _ (List.mem_append_left _ (List.mem_of_getElem? (i := 5) rfl))) (gi_sub (fun w h => (List.mem_cons_of_mem _ (List.mem_append_right _ (List.mem_append_right _ (List.mem_append_right _ (List.mem_append_right _ (List.mem_append_right _ (List.mem_append_left _ h)))))))) zg_k315_X6_copyInto)) rfl rfl rfl (by decide +kernel) ⟨Nat.le_of_ble_eq_true rfl, Nat.le_of_ble_eq_true rfl⟩ 13 rfl rfl rfl rfl (Nat.le_of_ble_eq_true rfl) ⟨Nat.le_of_ble_eq_true rfl, Nat.le_of_ble_eq_true rfl⟩ dX11_hold_27 (fun v ty' w' hp hk' => ?_)
        obtain ⟨I9891, A9891, hI9891, hA9891, hV9891, rfl, rfl⟩ := hp
        show GW κ 3 0 0 (wX q d I9891 A9891) 30 [(2, .ref (q 29)), (0, .ref (q 0)), (1, .int 1)] []
        refine g_aload_n hk dX11_hold_30 rfl ?_
        refine gX_r29_2 hk hin8 (List.mem_cons_of_mem _ (List.mem_append_left _ (List.mem_of_getElem? (i := 6) rfl))) dX11_hold_31 ?_
        refine g_aload_n hk dX11_hold_34 rfl ?_
        refine gX_r0_4 hk hin11 (List.mem_cons_of_mem _ (List.mem_append_left _ (List.mem_of_getElem? (i := 7) rfl))) dX11_hold_35 ?_
        refine g_callV (n := 1) hk (k317_X7_takeFrom l D zt q d I9891 A9891  hV9891) (SP.same _) (fun _ h => h) (gi_V (List.mem_cons_of_mem _ (List.mem_append_left _ (List.mem_of_getElem? (i := 8) rfl))) (List.mem_cons_of_mem _ (List.mem_append_left _ (List.mem_of_getElem? (i := 9) rfl))) (List.mem_cons_of_mem _ (List.mem_append_left _ (List.mem_of_getElem? (i := 10) rfl))) (List.mem_cons_of_mem _ (List.mem_append_left _ (List.mem_of_getElem? (i := 11) rfl))) (gi_sub (fun w h => (List.mem_cons_of_mem _ (List.mem_append_right _ (List.mem_append_right _ (List.mem_append_right _ (List.mem_append_right _ (List.mem_append_right _ (List.mem_append_right _ (List.mem_append_left _ h))))))))) zg_k317_X7_takeFrom)) rfl rfl rfl (by decide +kernel) ⟨Nat.le_of_ble_eq_true rfl, Nat.le_of_ble_eq_true rfl⟩ 31 rfl rfl rfl rfl (Nat.le_of_ble_eq_true rfl) ⟨Nat.le_of_ble_eq_true rfl, Nat.le_of_ble_eq_true rfl⟩ dX11_hold_38 (fun v ty' w' hp hk' => ?_)
        obtain ⟨I9918, A9918, hI9918, hA9918, hV9918, rfl, rfl⟩ := hp
        show GW κ 3 0 0 (wX q d I9918 A9918) 41 [(2, .ref (q 29)), (0, .ref (q 0)), (1, .int 1)] []
        refine g_aload_n hk dX11_hold_41 rfl ?_
        refine g_iconst (v := 1) hk dX11_hold_42 (by decide) ?_
        refine pX_i25 hk hin8 (List.mem_cons_of_mem _ (List.mem_append_left _ (List.mem_of_getElem? (i := 12) rfl))) ⟨rfl, rfl⟩ dX11_hold_43 ?_
        refine g_iconst (v := 1) hk dX11_hold_46 (by decide) ?_
        exact g_iret hk hR rfl ⟨(upd I9918 25 1), A9918, (show Md [22, 23, 24, 25, 26, 27] I (upd I9918 25 1) from (Md.up (Md.tr (Md.tr Md.rf hI9891 rfl) hI9918 rfl) rfl)), (show Md [15, 16, 17, 18, 19, 20] A A9918 from (Md.tr (Md.tr Md.rf hA9891 rfl) hA9918 rfl)), ⟨(IvX_f0 (I := I9918) (A := A9918) hV9918), (IvX_f18 (I := I9918) (A := A9918) hV9918), (IvX_f30 (I := I9918) (A := A9918) hV9918), (IvX_f31 (I := I9918) (A := A9918) hV9918), (IvX_a4 (I := I9918) (A := A9918) hV9918), (IvX_a9 (I := I9918) (A := A9918) hV9918), trivial⟩, 1, (by decide), (by decide), rfl, rfl⟩ dX11_hold_47
      by_cases c9919 : z1.toInt = 2
      · have ec9919 : z1 = 2 := Int32.toInt_inj.mp c9919
        rw [ec9919]
        show GW κ 3 0 0 (wX q d I A) 20 [(0, .ref (q 0)), (1, .int 2)] [.int 2, .ref (q 24)]
        refine lX_14 hk (vp_in_iff.mpr ⟨by decide, by decide⟩) rfl dX11_hold_20 ?_
        refine g_astore_n (lv' := [(2, .ref (q 33)), (0, .ref (q 0)), (1, .int 2)]) hk dX11_hold_21 (by decide) rfl ?_
        refine g_aload_n hk dX11_hold_22 rfl ?_
        refine gX_r0_2 hk hin11 (List.mem_cons_of_mem _ (List.mem_append_left _ (List.mem_of_getElem? (i := 1) rfl))) dX11_hold_23 ?_
        refine g_aload_n hk dX11_hold_26 rfl ?_
        refine g_callV (n := 1) hk (k318_X6_copyInto l D zt q d I A  hIv) (SP.same _) (fun _ h => h) (gi_V (List.mem_cons_of_mem _ (List.mem_append_left _ (List.mem_of_getElem? (i := 2) rfl))) (List.mem_cons_of_mem _ (List.mem_append_left _ (List.mem_of_getElem? (i := 3) rfl))) (List.mem_cons_of_mem _ (List.mem_append_left _ (List.mem_of_getElem? (i := 4) rfl))) (List.mem_cons_of_mem _ (List.mem_append_left _ (List.mem_of_getElem? (i := 5) rfl))) (gi_sub (fun w h => (List.mem_cons_of_mem _ (List.mem_append_right _ (List.mem_append_right _ (List.mem_append_right _ (List.mem_append_right _ (List.mem_append_right _ (List.mem_append_right _ (List.mem_append_right _ (List.mem_append_left _ h)))))))))) zg_k318_X6_copyInto)) rfl rfl rfl (by decide +kernel) ⟨Nat.le_of_ble_eq_true rfl, Nat.le_of_ble_eq_true rfl⟩ 13 rfl rfl rfl rfl (Nat.le_of_ble_eq_true rfl) ⟨Nat.le_of_ble_eq_true rfl, Nat.le_of_ble_eq_true rfl⟩ dX11_hold_27 (fun v ty' w' hp hk' => ?_)
        obtain ⟨I9967, A9967, hI9967, hA9967, hV9967, rfl, rfl⟩ := hp
        show GW κ 3 0 0 (wX q d I9967 A9967) 30 [(2, .ref (q 33)), (0, .ref (q 0)), (1, .int 2)] []
        refine g_aload_n hk dX11_hold_30 rfl ?_
        refine gX_r33_2 hk hin8 (List.mem_cons_of_mem _ (List.mem_append_left _ (List.mem_of_getElem? (i := 6) rfl))) dX11_hold_31 ?_
        refine g_aload_n hk dX11_hold_34 rfl ?_
        refine gX_r0_4 hk hin11 (List.mem_cons_of_mem _ (List.mem_append_left _ (List.mem_of_getElem? (i := 7) rfl))) dX11_hold_35 ?_
        refine g_callV (n := 1) hk (k320_X7_takeFrom l D zt q d I9967 A9967  hV9967) (SP.same _) (fun _ h => h) (gi_V (List.mem_cons_of_mem _ (List.mem_append_left _ (List.mem_of_getElem? (i := 8) rfl))) (List.mem_cons_of_mem _ (List.mem_append_left _ (List.mem_of_getElem? (i := 9) rfl))) (List.mem_cons_of_mem _ (List.mem_append_left _ (List.mem_of_getElem? (i := 10) rfl))) (List.mem_cons_of_mem _ (List.mem_append_left _ (List.mem_of_getElem? (i := 11) rfl))) (gi_sub (fun w h => (List.mem_cons_of_mem _ (List.mem_append_right _ (List.mem_append_right _ (List.mem_append_right _ (List.mem_append_right _ (List.mem_append_right _ (List.mem_append_right _ (List.mem_append_right _ (List.mem_append_right _ (List.mem_append_left _ h))))))))))) zg_k320_X7_takeFrom)) rfl rfl rfl (by decide +kernel) ⟨Nat.le_of_ble_eq_true rfl, Nat.le_of_ble_eq_true rfl⟩ 35 rfl rfl rfl rfl (Nat.le_of_ble_eq_true rfl) ⟨Nat.le_of_ble_eq_true rfl, Nat.le_of_ble_eq_true rfl⟩ dX11_hold_38 (fun v ty' w' hp hk' => ?_)
        obtain ⟨I9994, A9994, hI9994, hA9994, hV9994, rfl, rfl⟩ := hp
        show GW κ 3 0 0 (wX q d I9994 A9994) 41 [(2, .ref (q 33)), (0, .ref (q 0)), (1, .int 2)] []
        refine g_aload_n hk dX11_hold_41 rfl ?_
        refine g_iconst (v := 1) hk dX11_hold_42 (by decide) ?_
        refine pX_i27 hk hin8 (List.mem_cons_of_mem _ (List.mem_append_left _ (List.mem_of_getElem? (i := 12) rfl))) ⟨rfl, rfl⟩ dX11_hold_43 ?_
        refine g_iconst (v := 1) hk dX11_hold_46 (by decide) ?_
        exact g_iret hk hR rfl ⟨(upd I9994 27 1), A9994, (show Md [22, 23, 24, 25, 26, 27] I (upd I9994 27 1) from (Md.up (Md.tr (Md.tr Md.rf hI9967 rfl) hI9994 rfl) rfl)), (show Md [15, 16, 17, 18, 19, 20] A A9994 from (Md.tr (Md.tr Md.rf hA9967 rfl) hA9994 rfl)), ⟨(IvX_f0 (I := I9994) (A := A9994) hV9994), (IvX_f18 (I := I9994) (A := A9994) hV9994), (IvX_f30 (I := I9994) (A := A9994) hV9994), (IvX_f31 (I := I9994) (A := A9994) hV9994), (IvX_a4 (I := I9994) (A := A9994) hV9994), (IvX_a9 (I := I9994) (A := A9994) hV9994), trivial⟩, 1, (by decide), (by decide), rfl, rfl⟩ dX11_hold_47
      exfalso; omega
    · skip
      refine g_iconst (v := 0) hk dX11_hold_13 (by decide) ?_
      exact g_iret hk hR rfl ⟨I, A, (show Md [22, 23, 24, 25, 26, 27] I I from Md.rf), (show Md [15, 16, 17, 18, 19, 20] A A from Md.rf), hIv, 0, (by decide), (by decide), rfl, rfl⟩ dX11_hold_14
def wo_k324_X8_valueAt : List Cond := [Cond.fieldLink RX8 22 "WarpDesk$Stand" "size" "I", Cond.fieldLink RX8 9 "WarpDesk$Stand" "places" "[I"]
def wz_k324_X8_valueAt : List Cond := .code yX8_valueAt cX8_valueAt 2 (some .int) :: (wo_k324_X8_valueAt ++ (wsX80 ++ ([] : List Cond)))
theorem zg_k324_X8_valueAt : ∀ w ∈ wz_k324_X8_valueAt, goodWord w = true := zg_cons rfl (zg_app (by decide +kernel) (zg_app zgU_wsX80 zg_nil))
theorem zi_k324_X8_valueAt : ∀ w ∈ wz_k324_X8_valueAt, w ∈ lw_tbl := zi_cons zw_776 (zi_app (zi_cons zw_195 (zi_cons zw_194 zi_nil)) (zi_app inX8 zi_nil))
set_option maxHeartbeats 4000000 in
set_option maxRecDepth 100000 in
theorem k324_X8_valueAt (l : Launch) (D : va_G) (zt : Nat × Nat × Nat × (Nat → Nat) × (Nat → Nat)) (q : Nat → Nat) (d : Nat → ClassId) (I : Nat → Int32) (A : Nat → Nat → Int32) (z1 : Int32) (hIv : IvX I A) : GM l D zt (tyX d) yX8_valueAt wz_k324_X8_valueAt ({ frames := 0, cells := 0, slots := 0, locals := 0 } : Room) [.ref (q 25), .int z1] (wX q d I A) (fun v _ w' => ∃ y0 : Int32, v = some (.int y0) ∧ w' = wX q d I A) 0 0 := by
  refine GM.of (cc := cX8_valueAt) (maxL := 2) (ret := (some .int)) (own := RX8) (lv := [(0, .ref (q 25)), (1, .int z1)]) (by decide) rfl rfl (Nat.le_of_ble_eq_true rfl) rfl (fun κ sz hk hR hN => ?_)
  have hin8 : ∀ w ∈ u_ws RX8 TX8 4, w ∈ wz_k324_X8_valueAt := fun w h => (List.mem_cons_of_mem _ (List.mem_append_right _ (List.mem_append_left _ h)))
  refine g_iload_n hk dX8_valueAt_0 rfl ?_
  have b10007l := Int32.le_toInt z1
  have b10007h := Int32.toInt_lt z1
  refine g_if_lt (tgt := 30) (a := z1.toInt) hk dX8_valueAt_1 (by decide) rfl (fun c10008 => ?_) (fun c10008 => ?_)
  · skip
    refine g_sipush (v := (-1000)) hk dX8_valueAt_30 (by decide) ?_
    exact g_iret hk hR rfl ⟨(-1000), rfl, rfl⟩ dX8_valueAt_33
  · skip
    refine g_iload_n hk dX8_valueAt_4 rfl ?_
    refine g_aload_n hk dX8_valueAt_5 rfl ?_
    refine gX_i22 (v := (I 22)) hk hin8 (List.mem_cons_of_mem _ (List.mem_append_left _ (List.mem_of_getElem? (i := 0) rfl))) dX8_valueAt_6 rfl ?_
    have b10009l := Int32.le_toInt (I 22)
    have b10009h := Int32.toInt_lt (I 22)
    refine g_icmp_ge (tgt := 30) (a := z1.toInt) (b := (I 22).toInt) hk dX8_valueAt_9 (by decide) rfl rfl (fun c10010 => ?_) (fun c10010 => ?_)
    · skip
      refine g_sipush (v := (-1000)) hk dX8_valueAt_30 (by decide) ?_
      exact g_iret hk hR rfl ⟨(-1000), rfl, rfl⟩ dX8_valueAt_33
    · skip
      refine g_iload_n hk dX8_valueAt_12 rfl ?_
      refine g_aload_n hk dX8_valueAt_13 rfl ?_
      refine gX_r25_0 hk hin8 (List.mem_cons_of_mem _ (List.mem_append_left _ (List.mem_of_getElem? (i := 1) rfl))) dX8_valueAt_14 ?_
      refine nX_15 hk dX8_valueAt_17 ?_
      refine g_icmp_ge (tgt := 30) (a := z1.toInt) (b := 160) hk dX8_valueAt_18 (by decide) rfl rfl (fun c10011 => ?_) (fun c10011 => ?_)
      · skip
        refine g_sipush (v := (-1000)) hk dX8_valueAt_30 (by decide) ?_
        exact g_iret hk hR rfl ⟨(-1000), rfl, rfl⟩ dX8_valueAt_33
      · skip
        refine g_aload_n hk dX8_valueAt_21 rfl ?_
        refine gX_r25_0 hk hin8 (List.mem_cons_of_mem _ (List.mem_append_left _ (List.mem_of_getElem? (i := 1) rfl))) dX8_valueAt_22 ?_
        refine g_iload_n hk dX8_valueAt_25 rfl ?_
        refine lX_15 (v := (A 15 z1.toNatClampNeg)) hk (vp_in_iff.mpr ⟨by omega, by omega⟩) rfl dX8_valueAt_26 ?_
        refine g_goto (tgt := 33) hk dX8_valueAt_27 (by decide) ?_
        have b10012l := Int32.le_toInt (A 15 z1.toNatClampNeg)
        have b10012h := Int32.toInt_lt (A 15 z1.toNatClampNeg)
        exact g_iret hk hR rfl ⟨(A 15 z1.toNatClampNeg), rfl, rfl⟩ dX8_valueAt_33
def wo_k323_X6_takeFrom : List Cond := [Cond.fieldLink RX6 15 "WarpDesk$Series" "first" "I", Cond.fieldLink RX6 19 "WarpDesk$Series" "size" "I", Cond.fieldLink RX6 22 "WarpDesk$Stand" "size" "I", Cond.methodLink RX6 25 yX8_valueAt, Cond.instanceMethod yX8_valueAt, Cond.selects RX8 yX8_valueAt yX8_valueAt, Cond.initialized RX8, Cond.methodLink RX6 29 yX6_append, Cond.instanceMethod yX6_append, Cond.selects RX6 yX6_append yX6_append, Cond.initialized RX6]
def wz_k323_X6_takeFrom : List Cond := .code yX6_takeFrom cX6_takeFrom 3 none :: (wo_k323_X6_takeFrom ++ (wsX60 ++ (wsX80 ++ (wz_k324_X8_valueAt ++ (wz_k172_X6_append ++ ([] : List Cond))))))
theorem zg_k323_X6_takeFrom : ∀ w ∈ wz_k323_X6_takeFrom, goodWord w = true := zg_cons rfl (zg_app (by decide +kernel) (zg_app zgU_wsX60 (zg_app zgU_wsX80 (zg_app zg_k324_X8_valueAt (zg_app zg_k172_X6_append zg_nil)))))
theorem zi_k323_X6_takeFrom : ∀ w ∈ wz_k323_X6_takeFrom, w ∈ lw_tbl := zi_cons zw_772 (zi_app (zi_cons zw_281 (zi_cons zw_282 (zi_cons zw_196 (zi_cons zw_773 (zi_cons zw_774 (zi_cons zw_775 (zi_cons zw_106 (zi_cons zw_777 (zi_cons zw_778 (zi_cons zw_779 (zi_cons zw_109 zi_nil))))))))))) (zi_app inX6 (zi_app inX8 (zi_app zi_k324_X8_valueAt (zi_app zi_k172_X6_append zi_nil)))))
set_option maxHeartbeats 4000000 in
set_option maxRecDepth 100000 in
theorem k323_X6_takeFrom (l : Launch) (D : va_G) (zt : Nat × Nat × Nat × (Nat → Nat) × (Nat → Nat)) (q : Nat → Nat) (d : Nat → ClassId) (I : Nat → Int32) (A : Nat → Nat → Int32) (hIv : IvX I A) : GM l D zt (tyX d) yX6_takeFrom wz_k323_X6_takeFrom ({ frames := 1, cells := 0, slots := 0, locals := 21 } : Room) [.ref (q 13), .ref (q 25)] (wX q d I A) (fun v _ w' => ∃ (I' : Nat → Int32) (A' : Nat → Nat → Int32), Md [17, 18] I I' ∧ Md [7] A A' ∧ IvX I' A' ∧ v = none ∧ w' = wX q d I' A') 0 0 := by
  refine GM.of (cc := cX6_takeFrom) (maxL := 3) (ret := none) (own := RX6) (lv := [(0, .ref (q 13)), (1, .ref (q 25))]) (by decide) rfl rfl (Nat.le_of_ble_eq_true rfl) rfl (fun κ sz hk hR hN => ?_)
  have hin6 : ∀ w ∈ u_ws RX6 TX6 3, w ∈ wz_k323_X6_takeFrom := fun w h => (List.mem_cons_of_mem _ (List.mem_append_right _ (List.mem_append_left _ h)))
  have hin8 : ∀ w ∈ u_ws RX8 TX8 4, w ∈ wz_k323_X6_takeFrom := fun w h => (List.mem_cons_of_mem _ (List.mem_append_right _ (List.mem_append_right _ (List.mem_append_left _ h))))
  refine g_aload_n hk dX6_takeFrom_0 rfl ?_
  refine g_iconst (v := 0) hk dX6_takeFrom_1 (by decide) ?_
  refine pX_i17 hk hin6 (List.mem_cons_of_mem _ (List.mem_append_left _ (List.mem_of_getElem? (i := 0) rfl))) dX6_takeFrom_2 ?_
  refine g_aload_n hk dX6_takeFrom_5 rfl ?_
  refine g_iconst (v := 0) hk dX6_takeFrom_6 (by decide) ?_
  refine pX_i18 hk hin6 (List.mem_cons_of_mem _ (List.mem_append_left _ (List.mem_of_getElem? (i := 1) rfl))) dX6_takeFrom_7 ?_
  refine g_iconst (v := 0) hk dX6_takeFrom_10 (by decide) ?_
  refine g_istore_n (lv' := [(2, .int 0), (0, .ref (q 13)), (1, .ref (q 25))]) hk dX6_takeFrom_11 (by decide) rfl ?_
  have lp10037 : ∀ (n10038 : Nat) (x10001 : Int32) (I10004 : Nat → Int32) (A10004 : Nat → Nat → Int32), (Md [17, 18] (upd (upd I 17 0) 18 0) I10004) → (Md [7] A A10004) → (IvX I10004 A10004) → (0 ≤ x10001.toInt) → ((I 22).toInt + 1 - x10001.toInt < (n10038 : Int)) → (0 < n10038) → GW κ 3 0 0 (wX q d I10004 A10004) 12 [(2, .int x10001), (0, .ref (q 13)), (1, .ref (q 25))] [] := by
    intro n10038
    induction n10038 with
    | zero =>
      intro x10001 I10004 A10004 hI10004 hA10004 hV10004 h10036 m10039 m10039z
      exact absurd m10039z (Nat.lt_irrefl 0)
    | succ n10038 ih =>
      intro x10001 I10004 A10004 hI10004 hA10004 hV10004 h10036 m10039 m10039z
      refine g_iload_n hk dX6_takeFrom_12 rfl ?_
      refine g_aload_n hk dX6_takeFrom_13 rfl ?_
      refine gX_i22 (v := (I 22)) hk hin8 (List.mem_cons_of_mem _ (List.mem_append_left _ (List.mem_of_getElem? (i := 2) rfl))) dX6_takeFrom_14 (hI10004 22 rfl) ?_
      have b10040l := Int32.le_toInt x10001
      have b10040h := Int32.toInt_lt x10001
      have b10041l := Int32.le_toInt (I 22)
      have b10041h := Int32.toInt_lt (I 22)
      refine g_icmp_ge (tgt := 36) (a := x10001.toInt) (b := (I 22).toInt) hk dX6_takeFrom_17 (by decide) rfl rfl (fun c10042 => ?_) (fun c10042 => ?_)
      · skip
        exact g_vret hk hR ⟨I10004, A10004, (show Md [17, 18] I I10004 from (Md.tr (Md.up (Md.up Md.rf rfl) rfl) hI10004 rfl)), (show Md [7] A A10004 from (Md.tr Md.rf hA10004 rfl)), hV10004, rfl, rfl⟩ dX6_takeFrom_36
      · skip
        refine g_aload_n hk dX6_takeFrom_20 rfl ?_
        refine g_aload_n hk dX6_takeFrom_21 rfl ?_
        refine g_iload_n hk dX6_takeFrom_22 rfl ?_
        refine g_callV (n := 1) hk (k324_X8_valueAt l D zt q d I10004 A10004 x10001 hV10004) (SP.same _) (fun _ h => h) (gi_V (List.mem_cons_of_mem _ (List.mem_append_left _ (List.mem_of_getElem? (i := 3) rfl))) (List.mem_cons_of_mem _ (List.mem_append_left _ (List.mem_of_getElem? (i := 4) rfl))) (List.mem_cons_of_mem _ (List.mem_append_left _ (List.mem_of_getElem? (i := 5) rfl))) (List.mem_cons_of_mem _ (List.mem_append_left _ (List.mem_of_getElem? (i := 6) rfl))) (gi_sub (fun w h => (List.mem_cons_of_mem _ (List.mem_append_right _ (List.mem_append_right _ (List.mem_append_right _ (List.mem_append_left _ h)))))) zg_k324_X8_valueAt)) rfl rfl rfl (by decide +kernel) ⟨Nat.le_of_ble_eq_true rfl, Nat.le_of_ble_eq_true rfl⟩ 25 rfl rfl rfl rfl (Nat.le_of_ble_eq_true rfl) ⟨Nat.le_of_ble_eq_true rfl, Nat.le_of_ble_eq_true rfl⟩ dX6_takeFrom_23 (fun v ty' w' hp hk' => ?_)
        obtain ⟨y10043, rfl, rfl⟩ := hp
        show GW κ 3 0 0 (wX q d I10004 A10004) 26 [(2, .int x10001), (0, .ref (q 13)), (1, .ref (q 25))] [.int y10043, .ref (q 13)]
        refine g_callV (n := 1) hk (k172_X6_append l D zt q d I10004 A10004 y10043 hV10004) (SP.same _) (fun _ h => h) (gi_V (List.mem_cons_of_mem _ (List.mem_append_left _ (List.mem_of_getElem? (i := 7) rfl))) (List.mem_cons_of_mem _ (List.mem_append_left _ (List.mem_of_getElem? (i := 8) rfl))) (List.mem_cons_of_mem _ (List.mem_append_left _ (List.mem_of_getElem? (i := 9) rfl))) (List.mem_cons_of_mem _ (List.mem_append_left _ (List.mem_of_getElem? (i := 10) rfl))) (gi_sub (fun w h => (List.mem_cons_of_mem _ (List.mem_append_right _ (List.mem_append_right _ (List.mem_append_right _ (List.mem_append_right _ (List.mem_append_left _ h))))))) zg_k172_X6_append)) rfl rfl rfl (by decide +kernel) ⟨Nat.le_of_ble_eq_true rfl, Nat.le_of_ble_eq_true rfl⟩ 13 rfl rfl rfl rfl (Nat.le_of_ble_eq_true rfl) ⟨Nat.le_of_ble_eq_true rfl, Nat.le_of_ble_eq_true rfl⟩ dX6_takeFrom_26 (fun v ty' w' hp hk' => ?_)
        obtain ⟨I10047, A10047, hI10047, hA10047, hV10047, y10044, c10045, c10046, rfl, rfl⟩ := hp
        show GW κ 3 0 0 (wX q d I10047 A10047) 29 [(2, .int x10001), (0, .ref (q 13)), (1, .ref (q 25))] [.int y10044]
        refine g_pop hk dX6_takeFrom_29 rfl ?_
        obtain ⟨y10048, ey10048⟩ : ∃ y : Int32, y = x10001 + Int32.ofInt 1 := ⟨_, rfl⟩
        have hy10048 : y10048.toInt = x10001.toInt + 1 := i32_add ey10048 rfl (by decide) (by omega) (by omega)
        refine g_iinc (v := y10048) (lv' := [(2, .int y10048), (0, .ref (q 13)), (1, .ref (q 25))]) hk 0 dX6_takeFrom_30 rfl ey10048.symm (by decide) rfl ?_
        refine g_goto (tgt := 12) hk dX6_takeFrom_33 (by decide) ?_
        exact g_lv (List.forall_mem_cons.mpr ⟨List.mem_of_getElem? (i := 0) rfl, (List.forall_mem_cons.mpr ⟨List.mem_of_getElem? (i := 1) rfl, (List.forall_mem_cons.mpr ⟨List.mem_of_getElem? (i := 2) rfl, (fun _ h => absurd h List.not_mem_nil)⟩)⟩)⟩) (ih y10048 I10047 A10047 (show Md [17, 18] (upd (upd I 17 0) 18 0) I10047 from Md.tr hI10004 (show Md [17, 18] I10004 I10047 from (Md.tr Md.rf hI10047 rfl)) rfl) (show Md [7] A A10047 from Md.tr hA10004 (show Md [7] A10004 A10047 from (Md.tr Md.rf hA10047 rfl)) rfl) hV10047 (by omega) (by omega) (by omega))
  have k10050 : (0 : Int32).toInt = 0 := rfl
  obtain ⟨n10049, n10049a, n10049b⟩ : ∃ n : Nat, (I 22).toInt + 1 - 0 < (n : Int) ∧ 0 < n := ⟨(((I 22).toInt + 1 - 0 : Int)).toNat + 1, by omega, by omega⟩
  exact lp10037 n10049 0 (upd (upd I 17 0) 18 0) A Md.rf Md.rf ⟨(IvX_f0 (I := I) (A := A) hIv), ⟨by decide, by decide⟩, (IvX_f30 (I := I) (A := A) hIv), (IvX_f31 (I := I) (A := A) hIv), (IvX_a4 (I := I) (A := A) hIv), (IvX_a9 (I := I) (A := A) hIv), trivial⟩ (by omega) n10049a n10049b
def wo_k326_X7_valueOf : List Cond := [Cond.fieldLink RX7 20 "WarpDesk$Settings" "values" "[I"]
def wz_k326_X7_valueOf : List Cond := .code yX7_valueOf cX7_valueOf 2 (some .int) :: (wo_k326_X7_valueOf ++ (wsX70 ++ ([] : List Cond)))
theorem zg_k326_X7_valueOf : ∀ w ∈ wz_k326_X7_valueOf, goodWord w = true := zg_cons rfl (zg_app (by decide +kernel) (zg_app zgU_wsX70 zg_nil))
theorem zi_k326_X7_valueOf : ∀ w ∈ wz_k326_X7_valueOf, w ∈ lw_tbl := zi_cons zw_788 (zi_app (zi_cons zw_190 zi_nil) (zi_app inX7 zi_nil))
set_option maxHeartbeats 4000000 in
set_option maxRecDepth 100000 in
theorem k326_X7_valueOf (l : Launch) (D : va_G) (zt : Nat × Nat × Nat × (Nat → Nat) × (Nat → Nat)) (q : Nat → Nat) (d : Nat → ClassId) (I : Nat → Int32) (A : Nat → Nat → Int32) (z1 : Int32) (hIv : IvX I A) : GM l D zt (tyX d) yX7_valueOf wz_k326_X7_valueOf ({ frames := 0, cells := 0, slots := 0, locals := 0 } : Room) [.ref (q 27), .int z1] (wX q d I A) (fun v _ w' => ∃ y0 : Int32, v = some (.int y0) ∧ w' = wX q d I A) 0 0 := by
  refine GM.of (cc := cX7_valueOf) (maxL := 2) (ret := (some .int)) (own := RX7) (lv := [(0, .ref (q 27)), (1, .int z1)]) (by decide) rfl rfl (Nat.le_of_ble_eq_true rfl) rfl (fun κ sz hk hR hN => ?_)
  have hin7 : ∀ w ∈ u_ws RX7 TX7 1, w ∈ wz_k326_X7_valueOf := fun w h => (List.mem_cons_of_mem _ (List.mem_append_right _ (List.mem_append_left _ h)))
  refine g_iload_n hk dX7_valueOf_0 rfl ?_
  have b10057l := Int32.le_toInt z1
  have b10057h := Int32.toInt_lt z1
  refine g_if_lt (tgt := 22) (a := z1.toInt) hk dX7_valueOf_1 (by decide) rfl (fun c10058 => ?_) (fun c10058 => ?_)
  · skip
    refine g_iconst (v := (-1)) hk dX7_valueOf_22 (by decide) ?_
    exact g_iret hk hR rfl ⟨(-1), rfl, rfl⟩ dX7_valueOf_23
  · skip
    refine g_iload_n hk dX7_valueOf_4 rfl ?_
    refine g_aload_n hk dX7_valueOf_5 rfl ?_
    refine gX_r27_0 hk hin7 (List.mem_cons_of_mem _ (List.mem_append_left _ (List.mem_of_getElem? (i := 0) rfl))) dX7_valueOf_6 ?_
    refine nX_16 hk dX7_valueOf_9 ?_
    refine g_icmp_ge (tgt := 22) (a := z1.toInt) (b := 4) hk dX7_valueOf_10 (by decide) rfl rfl (fun c10059 => ?_) (fun c10059 => ?_)
    · skip
      refine g_iconst (v := (-1)) hk dX7_valueOf_22 (by decide) ?_
      exact g_iret hk hR rfl ⟨(-1), rfl, rfl⟩ dX7_valueOf_23
    · skip
      refine g_aload_n hk dX7_valueOf_13 rfl ?_
      refine gX_r27_0 hk hin7 (List.mem_cons_of_mem _ (List.mem_append_left _ (List.mem_of_getElem? (i := 0) rfl))) dX7_valueOf_14 ?_
      refine g_iload_n hk dX7_valueOf_17 rfl ?_
      refine lX_16 (v := (A 16 z1.toNatClampNeg)) hk (vp_in_iff.mpr ⟨by omega, by omega⟩) rfl dX7_valueOf_18 ?_
      refine g_goto (tgt := 23) hk dX7_valueOf_19 (by decide) ?_
      have b10060l := Int32.le_toInt (A 16 z1.toNatClampNeg)
      have b10060h := Int32.toInt_lt (A 16 z1.toNatClampNeg)
      exact g_iret hk hR rfl ⟨(A 16 z1.toNatClampNeg), rfl, rfl⟩ dX7_valueOf_23
def wo_k325_X7_takeFrom : List Cond := [Cond.fieldLink RX7 20 "WarpDesk$Settings" "values" "[I", Cond.methodLink RX7 33 yX7_valueOf, Cond.instanceMethod yX7_valueOf, Cond.selects RX7 yX7_valueOf yX7_valueOf, Cond.initialized RX7]
def wz_k325_X7_takeFrom : List Cond := .code yX7_takeFrom cX7_takeFrom 3 none :: (wo_k325_X7_takeFrom ++ (wsX70 ++ (wz_k326_X7_valueOf ++ ([] : List Cond))))
theorem zg_k325_X7_takeFrom : ∀ w ∈ wz_k325_X7_takeFrom, goodWord w = true := zg_cons rfl (zg_app (by decide +kernel) (zg_app zgU_wsX70 (zg_app zg_k326_X7_valueOf zg_nil)))
theorem zi_k325_X7_takeFrom : ∀ w ∈ wz_k325_X7_takeFrom, w ∈ lw_tbl := zi_cons zw_784 (zi_app (zi_cons zw_190 (zi_cons zw_785 (zi_cons zw_786 (zi_cons zw_787 (zi_cons zw_107 zi_nil))))) (zi_app inX7 (zi_app zi_k326_X7_valueOf zi_nil)))
set_option maxHeartbeats 4000000 in
set_option maxRecDepth 100000 in
theorem k325_X7_takeFrom (l : Launch) (D : va_G) (zt : Nat × Nat × Nat × (Nat → Nat) × (Nat → Nat)) (q : Nat → Nat) (d : Nat → ClassId) (I : Nat → Int32) (A : Nat → Nat → Int32) (hIv : IvX I A) : GM l D zt (tyX d) yX7_takeFrom wz_k325_X7_takeFrom ({ frames := 1, cells := 0, slots := 0, locals := 21 } : Room) [.ref (q 18), .ref (q 27)] (wX q d I A) (fun v _ w' => ∃ (I' : Nat → Int32) (A' : Nat → Nat → Int32), Md [] I I' ∧ Md [10] A A' ∧ IvX I' A' ∧ v = none ∧ w' = wX q d I' A') 0 0 := by
  refine GM.of (cc := cX7_takeFrom) (maxL := 3) (ret := none) (own := RX7) (lv := [(0, .ref (q 18)), (1, .ref (q 27))]) (by decide) rfl rfl (Nat.le_of_ble_eq_true rfl) rfl (fun κ sz hk hR hN => ?_)
  have hin7 : ∀ w ∈ u_ws RX7 TX7 1, w ∈ wz_k325_X7_takeFrom := fun w h => (List.mem_cons_of_mem _ (List.mem_append_right _ (List.mem_append_left _ h)))
  refine g_iconst (v := 0) hk dX7_takeFrom_0 (by decide) ?_
  refine g_istore_n (lv' := [(2, .int 0), (0, .ref (q 18)), (1, .ref (q 27))]) hk dX7_takeFrom_1 (by decide) rfl ?_
  have lp10074 : ∀ (n10075 : Nat) (x10053 : Int32) (I10056 : Nat → Int32) (A10056 : Nat → Nat → Int32), (Md [] I I10056) → (Md [10] A A10056) → (IvX I10056 A10056) → (0 ≤ x10053.toInt) → (x10053.toInt ≤ 4) → (5 - x10053.toInt < (n10075 : Int)) → (0 < n10075) → GW κ 3 0 0 (wX q d I10056 A10056) 2 [(2, .int x10053), (0, .ref (q 18)), (1, .ref (q 27))] [] := by
    intro n10075
    induction n10075 with
    | zero =>
      intro x10053 I10056 A10056 hI10056 hA10056 hV10056 h10072 h10073 m10076 m10076z
      exact absurd m10076z (Nat.lt_irrefl 0)
    | succ n10075 ih =>
      intro x10053 I10056 A10056 hI10056 hA10056 hV10056 h10072 h10073 m10076 m10076z
      refine g_iload_n hk dX7_takeFrom_2 rfl ?_
      refine g_aload_n hk dX7_takeFrom_3 rfl ?_
      refine gX_r18_0 hk hin7 (List.mem_cons_of_mem _ (List.mem_append_left _ (List.mem_of_getElem? (i := 0) rfl))) dX7_takeFrom_4 ?_
      refine nX_10 hk dX7_takeFrom_7 ?_
      refine g_icmp_ge (tgt := 28) (a := x10053.toInt) (b := 4) hk dX7_takeFrom_8 (by decide) rfl rfl (fun c10077 => ?_) (fun c10077 => ?_)
      · skip
        exact g_vret hk hR ⟨I10056, A10056, (show Md [] I I10056 from (Md.tr Md.rf hI10056 rfl)), (show Md [10] A A10056 from (Md.tr Md.rf hA10056 rfl)), hV10056, rfl, rfl⟩ dX7_takeFrom_28
      · skip
        refine g_aload_n hk dX7_takeFrom_11 rfl ?_
        refine gX_r18_0 hk hin7 (List.mem_cons_of_mem _ (List.mem_append_left _ (List.mem_of_getElem? (i := 0) rfl))) dX7_takeFrom_12 ?_
        refine g_iload_n hk dX7_takeFrom_15 rfl ?_
        refine g_aload_n hk dX7_takeFrom_16 rfl ?_
        refine g_iload_n hk dX7_takeFrom_17 rfl ?_
        refine g_callV (n := 1) hk (k326_X7_valueOf l D zt q d I10056 A10056 x10053 hV10056) (SP.same _) (fun _ h => h) (gi_V (List.mem_cons_of_mem _ (List.mem_append_left _ (List.mem_of_getElem? (i := 1) rfl))) (List.mem_cons_of_mem _ (List.mem_append_left _ (List.mem_of_getElem? (i := 2) rfl))) (List.mem_cons_of_mem _ (List.mem_append_left _ (List.mem_of_getElem? (i := 3) rfl))) (List.mem_cons_of_mem _ (List.mem_append_left _ (List.mem_of_getElem? (i := 4) rfl))) (gi_sub (fun w h => (List.mem_cons_of_mem _ (List.mem_append_right _ (List.mem_append_right _ (List.mem_append_left _ h))))) zg_k326_X7_valueOf)) rfl rfl rfl (by decide +kernel) ⟨Nat.le_of_ble_eq_true rfl, Nat.le_of_ble_eq_true rfl⟩ 27 rfl rfl rfl rfl (Nat.le_of_ble_eq_true rfl) ⟨Nat.le_of_ble_eq_true rfl, Nat.le_of_ble_eq_true rfl⟩ dX7_takeFrom_18 (fun v ty' w' hp hk' => ?_)
        obtain ⟨y10078, rfl, rfl⟩ := hp
        show GW κ 3 0 0 (wX q d I10056 A10056) 21 [(2, .int x10053), (0, .ref (q 18)), (1, .ref (q 27))] [.int y10078, .int x10053, .ref (q 19)]
        refine sX_10 (j := x10053.toNatClampNeg) hk (vp_in_iff.mpr ⟨by omega, by omega⟩) rfl dX7_takeFrom_21 ?_
        obtain ⟨y10079, ey10079⟩ : ∃ y : Int32, y = x10053 + Int32.ofInt 1 := ⟨_, rfl⟩
        have hy10079 : y10079.toInt = x10053.toInt + 1 := i32_add ey10079 rfl (by decide) (by omega) (by omega)
        refine g_iinc (v := y10079) (lv' := [(2, .int y10079), (0, .ref (q 18)), (1, .ref (q 27))]) hk 0 dX7_takeFrom_22 rfl ey10079.symm (by decide) rfl ?_
        refine g_goto (tgt := 2) hk dX7_takeFrom_25 (by decide) ?_
        exact g_lv (List.forall_mem_cons.mpr ⟨List.mem_of_getElem? (i := 0) rfl, (List.forall_mem_cons.mpr ⟨List.mem_of_getElem? (i := 1) rfl, (List.forall_mem_cons.mpr ⟨List.mem_of_getElem? (i := 2) rfl, (fun _ h => absurd h List.not_mem_nil)⟩)⟩)⟩) (ih y10079 I10056 (up3 A10056 10 (x10053.toNatClampNeg) y10078) (show Md [] I I10056 from Md.tr hI10056 (show Md [] I10056 I10056 from Md.rf) rfl) (show Md [10] A (up3 A10056 10 (x10053.toNatClampNeg) y10078) from Md.tr hA10056 (show Md [10] A10056 (up3 A10056 10 (x10053.toNatClampNeg) y10078) from (Md.up3 Md.rf rfl)) rfl) ⟨(IvX_f0 (I := I10056) (A := A10056) hV10056), (IvX_f18 (I := I10056) (A := A10056) hV10056), (IvX_f30 (I := I10056) (A := A10056) hV10056), (IvX_f31 (I := I10056) (A := A10056) hV10056), (IvX_a4 (I := I10056) (A := A10056) hV10056), (IvX_a9 (I := I10056) (A := A10056) hV10056), trivial⟩ (by omega) (by omega) (by omega) (by omega))
  have k10081 : (0 : Int32).toInt = 0 := rfl
  obtain ⟨n10080, n10080a, n10080b⟩ : ∃ n : Nat, 5 - 0 < (n : Int) ∧ 0 < n := ⟨((5 - 0 : Int)).toNat + 1, by omega, by omega⟩
  exact lp10074 n10080 0 I A Md.rf Md.rf hIv (by omega) (by omega) n10080a n10080b
def wo_k322_X11_goOnFrom : List Cond := [Cond.fieldLink RX11 28 "WarpDesk" "series" "LWarpDesk$Series;", Cond.methodLink RX11 369 yX6_takeFrom, Cond.instanceMethod yX6_takeFrom, Cond.selects RX6 yX6_takeFrom yX6_takeFrom, Cond.initialized RX6, Cond.fieldLink RX11 42 "WarpDesk" "settings" "LWarpDesk$Settings;", Cond.fieldLink RX11 365 "WarpDesk$Stand" "settings" "LWarpDesk$Settings;", Cond.methodLink RX11 366 yX7_takeFrom, Cond.instanceMethod yX7_takeFrom, Cond.selects RX7 yX7_takeFrom yX7_takeFrom, Cond.initialized RX7, Cond.fieldLink RX11 49 "WarpDesk" "past" "LWarpDesk$Past;", Cond.methodLink RX11 371 yX3_forget, Cond.instanceMethod yX3_forget, Cond.selects RX3 yX3_forget yX3_forget, Cond.initialized RX3]
def wz_k322_X11_goOnFrom : List Cond := .code yX11_goOnFrom cX11_goOnFrom 2 none :: (wo_k322_X11_goOnFrom ++ (wsX80 ++ (wsX110 ++ (wz_k323_X6_takeFrom ++ (wz_k325_X7_takeFrom ++ (wz_k175_X3_forget ++ ([] : List Cond)))))))
theorem zg_k322_X11_goOnFrom : ∀ w ∈ wz_k322_X11_goOnFrom, goodWord w = true := zg_cons rfl (zg_app (by decide +kernel) (zg_app zgU_wsX80 (zg_app zgU_wsX110 (zg_app zg_k323_X6_takeFrom (zg_app zg_k325_X7_takeFrom (zg_app zg_k175_X3_forget zg_nil))))))
theorem zi_k322_X11_goOnFrom : ∀ w ∈ wz_k322_X11_goOnFrom, w ∈ lw_tbl := zi_cons zw_768 (zi_app (zi_cons zw_489 (zi_cons zw_769 (zi_cons zw_770 (zi_cons zw_771 (zi_cons zw_109 (zi_cons zw_491 (zi_cons zw_200 (zi_cons zw_781 (zi_cons zw_782 (zi_cons zw_783 (zi_cons zw_107 (zi_cons zw_492 (zi_cons zw_789 (zi_cons zw_790 (zi_cons zw_791 (zi_cons zw_110 zi_nil)))))))))))))))) (zi_app inX8 (zi_app inX11 (zi_app zi_k323_X6_takeFrom (zi_app zi_k325_X7_takeFrom (zi_app zi_k175_X3_forget zi_nil))))))
set_option maxHeartbeats 4000000 in
set_option maxRecDepth 100000 in
theorem k322_X11_goOnFrom (l : Launch) (D : va_G) (zt : Nat × Nat × Nat × (Nat → Nat) × (Nat → Nat)) (q : Nat → Nat) (d : Nat → ClassId) (I : Nat → Int32) (A : Nat → Nat → Int32) (hIv : IvX I A) : GM l D zt (tyX d) yX11_goOnFrom wz_k322_X11_goOnFrom ({ frames := 2, cells := 0, slots := 0, locals := 43 } : Room) [.ref (q 0), .ref (q 25)] (wX q d I A) (fun v _ w' => ∃ (I' : Nat → Int32) (A' : Nat → Nat → Int32), Md [17, 18, 21] I I' ∧ Md [7, 10] A A' ∧ IvX I' A' ∧ v = none ∧ w' = wX q d I' A') 0 0 := by
  refine GM.of (cc := cX11_goOnFrom) (maxL := 2) (ret := none) (own := RX11) (lv := [(0, .ref (q 0)), (1, .ref (q 25))]) (by decide) rfl rfl (Nat.le_of_ble_eq_true rfl) rfl (fun κ sz hk hR hN => ?_)
  have hin8 : ∀ w ∈ u_ws RX8 TX8 4, w ∈ wz_k322_X11_goOnFrom := fun w h => (List.mem_cons_of_mem _ (List.mem_append_right _ (List.mem_append_left _ h)))
  have hin11 : ∀ w ∈ u_ws RX11 TX11 10, w ∈ wz_k322_X11_goOnFrom := fun w h => (List.mem_cons_of_mem _ (List.mem_append_right _ (List.mem_append_right _ (List.mem_append_left _ h))))
  refine g_aload_n hk dX11_goOnFrom_0 rfl ?_
  refine gX_r0_2 hk hin11 (List.mem_cons_of_mem _ (List.mem_append_left _ (List.mem_of_getElem? (i := 0) rfl))) dX11_goOnFrom_1 ?_
  refine g_aload_n hk dX11_goOnFrom_4 rfl ?_
  refine g_callV (n := 1) hk (k323_X6_takeFrom l D zt q d I A  hIv) (SP.same _) (fun _ h => h) (gi_V (List.mem_cons_of_mem _ (List.mem_append_left _ (List.mem_of_getElem? (i := 1) rfl))) (List.mem_cons_of_mem _ (List.mem_append_left _ (List.mem_of_getElem? (i := 2) rfl))) (List.mem_cons_of_mem _ (List.mem_append_left _ (List.mem_of_getElem? (i := 3) rfl))) (List.mem_cons_of_mem _ (List.mem_append_left _ (List.mem_of_getElem? (i := 4) rfl))) (gi_sub (fun w h => (List.mem_cons_of_mem _ (List.mem_append_right _ (List.mem_append_right _ (List.mem_append_right _ (List.mem_append_left _ h)))))) zg_k323_X6_takeFrom)) rfl rfl rfl (by decide +kernel) ⟨Nat.le_of_ble_eq_true rfl, Nat.le_of_ble_eq_true rfl⟩ 13 rfl rfl rfl rfl (Nat.le_of_ble_eq_true rfl) ⟨Nat.le_of_ble_eq_true rfl, Nat.le_of_ble_eq_true rfl⟩ dX11_goOnFrom_5 (fun v ty' w' hp hk' => ?_)
  obtain ⟨I10052, A10052, hI10052, hA10052, hV10052, rfl, rfl⟩ := hp
  show GW κ 2 0 0 (wX q d I10052 A10052) 8 [(0, .ref (q 0)), (1, .ref (q 25))] []
  refine g_aload_n hk dX11_goOnFrom_8 rfl ?_
  refine gX_r0_4 hk hin11 (List.mem_cons_of_mem _ (List.mem_append_left _ (List.mem_of_getElem? (i := 5) rfl))) dX11_goOnFrom_9 ?_
  refine g_aload_n hk dX11_goOnFrom_12 rfl ?_
  refine gX_r25_2 hk hin8 (List.mem_cons_of_mem _ (List.mem_append_left _ (List.mem_of_getElem? (i := 6) rfl))) dX11_goOnFrom_13 ?_
  refine g_callV (n := 1) hk (k325_X7_takeFrom l D zt q d I10052 A10052  hV10052) (SP.same _) (fun _ h => h) (gi_V (List.mem_cons_of_mem _ (List.mem_append_left _ (List.mem_of_getElem? (i := 7) rfl))) (List.mem_cons_of_mem _ (List.mem_append_left _ (List.mem_of_getElem? (i := 8) rfl))) (List.mem_cons_of_mem _ (List.mem_append_left _ (List.mem_of_getElem? (i := 9) rfl))) (List.mem_cons_of_mem _ (List.mem_append_left _ (List.mem_of_getElem? (i := 10) rfl))) (gi_sub (fun w h => (List.mem_cons_of_mem _ (List.mem_append_right _ (List.mem_append_right _ (List.mem_append_right _ (List.mem_append_right _ (List.mem_append_left _ h))))))) zg_k325_X7_takeFrom)) rfl rfl rfl (by decide +kernel) ⟨Nat.le_of_ble_eq_true rfl, Nat.le_of_ble_eq_true rfl⟩ 18 rfl rfl rfl rfl (Nat.le_of_ble_eq_true rfl) ⟨Nat.le_of_ble_eq_true rfl, Nat.le_of_ble_eq_true rfl⟩ dX11_goOnFrom_16 (fun v ty' w' hp hk' => ?_)
  obtain ⟨I10083, A10083, hI10083, hA10083, hV10083, rfl, rfl⟩ := hp
  show GW κ 2 0 0 (wX q d I10083 A10083) 19 [(0, .ref (q 0)), (1, .ref (q 25))] []
  refine g_aload_n hk dX11_goOnFrom_19 rfl ?_
  refine gX_r0_5 hk hin11 (List.mem_cons_of_mem _ (List.mem_append_left _ (List.mem_of_getElem? (i := 11) rfl))) dX11_goOnFrom_20 ?_
  refine g_callV (n := 0) hk (k175_X3_forget l D zt q d I10083 A10083  hV10083) (SP.same _) (fun _ h => h) (gi_V (List.mem_cons_of_mem _ (List.mem_append_left _ (List.mem_of_getElem? (i := 12) rfl))) (List.mem_cons_of_mem _ (List.mem_append_left _ (List.mem_of_getElem? (i := 13) rfl))) (List.mem_cons_of_mem _ (List.mem_append_left _ (List.mem_of_getElem? (i := 14) rfl))) (List.mem_cons_of_mem _ (List.mem_append_left _ (List.mem_of_getElem? (i := 15) rfl))) (gi_sub (fun w h => (List.mem_cons_of_mem _ (List.mem_append_right _ (List.mem_append_right _ (List.mem_append_right _ (List.mem_append_right _ (List.mem_append_right _ (List.mem_append_left _ h)))))))) zg_k175_X3_forget)) rfl rfl rfl (by decide +kernel) ⟨Nat.le_of_ble_eq_true rfl, Nat.le_of_ble_eq_true rfl⟩ 20 rfl rfl rfl rfl (Nat.le_of_ble_eq_true rfl) ⟨Nat.le_of_ble_eq_true rfl, Nat.le_of_ble_eq_true rfl⟩ dX11_goOnFrom_23 (fun v ty' w' hp hk' => ?_)
  obtain ⟨I10085, A10085, hI10085, hA10085, hV10085, rfl, rfl⟩ := hp
  show GW κ 2 0 0 (wX q d I10085 A10085) 26 [(0, .ref (q 0)), (1, .ref (q 25))] []
  exact g_vret hk hR ⟨I10085, A10085, (show Md [17, 18, 21] I I10085 from (Md.tr (Md.tr (Md.tr Md.rf hI10052 rfl) hI10083 rfl) hI10085 rfl)), (show Md [7, 10] A A10085 from (Md.tr (Md.tr (Md.tr Md.rf hA10052 rfl) hA10083 rfl) hA10085 rfl)), hV10085, rfl, rfl⟩ dX11_goOnFrom_26
def wo_k329_X8_valueAt : List Cond := [Cond.fieldLink RX8 22 "WarpDesk$Stand" "size" "I", Cond.fieldLink RX8 9 "WarpDesk$Stand" "places" "[I"]
def wz_k329_X8_valueAt : List Cond := .code yX8_valueAt cX8_valueAt 2 (some .int) :: (wo_k329_X8_valueAt ++ (wsX80 ++ ([] : List Cond)))
theorem zg_k329_X8_valueAt : ∀ w ∈ wz_k329_X8_valueAt, goodWord w = true := zg_cons rfl (zg_app (by decide +kernel) (zg_app zgU_wsX80 zg_nil))
theorem zi_k329_X8_valueAt : ∀ w ∈ wz_k329_X8_valueAt, w ∈ lw_tbl := zi_cons zw_776 (zi_app (zi_cons zw_195 (zi_cons zw_194 zi_nil)) (zi_app inX8 zi_nil))
set_option maxHeartbeats 4000000 in
set_option maxRecDepth 100000 in
theorem k329_X8_valueAt (l : Launch) (D : va_G) (zt : Nat × Nat × Nat × (Nat → Nat) × (Nat → Nat)) (q : Nat → Nat) (d : Nat → ClassId) (I : Nat → Int32) (A : Nat → Nat → Int32) (z1 : Int32) (hIv : IvX I A) : GM l D zt (tyX d) yX8_valueAt wz_k329_X8_valueAt ({ frames := 0, cells := 0, slots := 0, locals := 0 } : Room) [.ref (q 29), .int z1] (wX q d I A) (fun v _ w' => ∃ y0 : Int32, v = some (.int y0) ∧ w' = wX q d I A) 0 0 := by
  refine GM.of (cc := cX8_valueAt) (maxL := 2) (ret := (some .int)) (own := RX8) (lv := [(0, .ref (q 29)), (1, .int z1)]) (by decide) rfl rfl (Nat.le_of_ble_eq_true rfl) rfl (fun κ sz hk hR hN => ?_)
  have hin8 : ∀ w ∈ u_ws RX8 TX8 4, w ∈ wz_k329_X8_valueAt := fun w h => (List.mem_cons_of_mem _ (List.mem_append_right _ (List.mem_append_left _ h)))
  refine g_iload_n hk dX8_valueAt_0 rfl ?_
  have b10097l := Int32.le_toInt z1
  have b10097h := Int32.toInt_lt z1
  refine g_if_lt (tgt := 30) (a := z1.toInt) hk dX8_valueAt_1 (by decide) rfl (fun c10098 => ?_) (fun c10098 => ?_)
  · skip
    refine g_sipush (v := (-1000)) hk dX8_valueAt_30 (by decide) ?_
    exact g_iret hk hR rfl ⟨(-1000), rfl, rfl⟩ dX8_valueAt_33
  · skip
    refine g_iload_n hk dX8_valueAt_4 rfl ?_
    refine g_aload_n hk dX8_valueAt_5 rfl ?_
    refine gX_i24 (v := (I 24)) hk hin8 (List.mem_cons_of_mem _ (List.mem_append_left _ (List.mem_of_getElem? (i := 0) rfl))) dX8_valueAt_6 rfl ?_
    have b10099l := Int32.le_toInt (I 24)
    have b10099h := Int32.toInt_lt (I 24)
    refine g_icmp_ge (tgt := 30) (a := z1.toInt) (b := (I 24).toInt) hk dX8_valueAt_9 (by decide) rfl rfl (fun c10100 => ?_) (fun c10100 => ?_)
    · skip
      refine g_sipush (v := (-1000)) hk dX8_valueAt_30 (by decide) ?_
      exact g_iret hk hR rfl ⟨(-1000), rfl, rfl⟩ dX8_valueAt_33
    · skip
      refine g_iload_n hk dX8_valueAt_12 rfl ?_
      refine g_aload_n hk dX8_valueAt_13 rfl ?_
      refine gX_r29_0 hk hin8 (List.mem_cons_of_mem _ (List.mem_append_left _ (List.mem_of_getElem? (i := 1) rfl))) dX8_valueAt_14 ?_
      refine nX_17 hk dX8_valueAt_17 ?_
      refine g_icmp_ge (tgt := 30) (a := z1.toInt) (b := 160) hk dX8_valueAt_18 (by decide) rfl rfl (fun c10101 => ?_) (fun c10101 => ?_)
      · skip
        refine g_sipush (v := (-1000)) hk dX8_valueAt_30 (by decide) ?_
        exact g_iret hk hR rfl ⟨(-1000), rfl, rfl⟩ dX8_valueAt_33
      · skip
        refine g_aload_n hk dX8_valueAt_21 rfl ?_
        refine gX_r29_0 hk hin8 (List.mem_cons_of_mem _ (List.mem_append_left _ (List.mem_of_getElem? (i := 1) rfl))) dX8_valueAt_22 ?_
        refine g_iload_n hk dX8_valueAt_25 rfl ?_
        refine lX_17 (v := (A 17 z1.toNatClampNeg)) hk (vp_in_iff.mpr ⟨by omega, by omega⟩) rfl dX8_valueAt_26 ?_
        refine g_goto (tgt := 33) hk dX8_valueAt_27 (by decide) ?_
        have b10102l := Int32.le_toInt (A 17 z1.toNatClampNeg)
        have b10102h := Int32.toInt_lt (A 17 z1.toNatClampNeg)
        exact g_iret hk hR rfl ⟨(A 17 z1.toNatClampNeg), rfl, rfl⟩ dX8_valueAt_33
def wo_k328_X6_takeFrom : List Cond := [Cond.fieldLink RX6 15 "WarpDesk$Series" "first" "I", Cond.fieldLink RX6 19 "WarpDesk$Series" "size" "I", Cond.fieldLink RX6 22 "WarpDesk$Stand" "size" "I", Cond.methodLink RX6 25 yX8_valueAt, Cond.instanceMethod yX8_valueAt, Cond.selects RX8 yX8_valueAt yX8_valueAt, Cond.initialized RX8, Cond.methodLink RX6 29 yX6_append, Cond.instanceMethod yX6_append, Cond.selects RX6 yX6_append yX6_append, Cond.initialized RX6]
def wz_k328_X6_takeFrom : List Cond := .code yX6_takeFrom cX6_takeFrom 3 none :: (wo_k328_X6_takeFrom ++ (wsX60 ++ (wsX80 ++ (wz_k329_X8_valueAt ++ (wz_k172_X6_append ++ ([] : List Cond))))))
theorem zg_k328_X6_takeFrom : ∀ w ∈ wz_k328_X6_takeFrom, goodWord w = true := zg_cons rfl (zg_app (by decide +kernel) (zg_app zgU_wsX60 (zg_app zgU_wsX80 (zg_app zg_k329_X8_valueAt (zg_app zg_k172_X6_append zg_nil)))))
theorem zi_k328_X6_takeFrom : ∀ w ∈ wz_k328_X6_takeFrom, w ∈ lw_tbl := zi_cons zw_772 (zi_app (zi_cons zw_281 (zi_cons zw_282 (zi_cons zw_196 (zi_cons zw_773 (zi_cons zw_774 (zi_cons zw_775 (zi_cons zw_106 (zi_cons zw_777 (zi_cons zw_778 (zi_cons zw_779 (zi_cons zw_109 zi_nil))))))))))) (zi_app inX6 (zi_app inX8 (zi_app zi_k329_X8_valueAt (zi_app zi_k172_X6_append zi_nil)))))
set_option maxHeartbeats 4000000 in
set_option maxRecDepth 100000 in
theorem k328_X6_takeFrom (l : Launch) (D : va_G) (zt : Nat × Nat × Nat × (Nat → Nat) × (Nat → Nat)) (q : Nat → Nat) (d : Nat → ClassId) (I : Nat → Int32) (A : Nat → Nat → Int32) (hIv : IvX I A) : GM l D zt (tyX d) yX6_takeFrom wz_k328_X6_takeFrom ({ frames := 1, cells := 0, slots := 0, locals := 21 } : Room) [.ref (q 13), .ref (q 29)] (wX q d I A) (fun v _ w' => ∃ (I' : Nat → Int32) (A' : Nat → Nat → Int32), Md [17, 18] I I' ∧ Md [7] A A' ∧ IvX I' A' ∧ v = none ∧ w' = wX q d I' A') 0 0 := by
  refine GM.of (cc := cX6_takeFrom) (maxL := 3) (ret := none) (own := RX6) (lv := [(0, .ref (q 13)), (1, .ref (q 29))]) (by decide) rfl rfl (Nat.le_of_ble_eq_true rfl) rfl (fun κ sz hk hR hN => ?_)
  have hin6 : ∀ w ∈ u_ws RX6 TX6 3, w ∈ wz_k328_X6_takeFrom := fun w h => (List.mem_cons_of_mem _ (List.mem_append_right _ (List.mem_append_left _ h)))
  have hin8 : ∀ w ∈ u_ws RX8 TX8 4, w ∈ wz_k328_X6_takeFrom := fun w h => (List.mem_cons_of_mem _ (List.mem_append_right _ (List.mem_append_right _ (List.mem_append_left _ h))))
  refine g_aload_n hk dX6_takeFrom_0 rfl ?_
  refine g_iconst (v := 0) hk dX6_takeFrom_1 (by decide) ?_
  refine pX_i17 hk hin6 (List.mem_cons_of_mem _ (List.mem_append_left _ (List.mem_of_getElem? (i := 0) rfl))) dX6_takeFrom_2 ?_
  refine g_aload_n hk dX6_takeFrom_5 rfl ?_
  refine g_iconst (v := 0) hk dX6_takeFrom_6 (by decide) ?_
  refine pX_i18 hk hin6 (List.mem_cons_of_mem _ (List.mem_append_left _ (List.mem_of_getElem? (i := 1) rfl))) dX6_takeFrom_7 ?_
  refine g_iconst (v := 0) hk dX6_takeFrom_10 (by decide) ?_
  refine g_istore_n (lv' := [(2, .int 0), (0, .ref (q 13)), (1, .ref (q 29))]) hk dX6_takeFrom_11 (by decide) rfl ?_
  have lp10127 : ∀ (n10128 : Nat) (x10091 : Int32) (I10094 : Nat → Int32) (A10094 : Nat → Nat → Int32), (Md [17, 18] (upd (upd I 17 0) 18 0) I10094) → (Md [7] A A10094) → (IvX I10094 A10094) → (0 ≤ x10091.toInt) → ((I 24).toInt + 1 - x10091.toInt < (n10128 : Int)) → (0 < n10128) → GW κ 3 0 0 (wX q d I10094 A10094) 12 [(2, .int x10091), (0, .ref (q 13)), (1, .ref (q 29))] [] := by
    intro n10128
    induction n10128 with
    | zero =>
      intro x10091 I10094 A10094 hI10094 hA10094 hV10094 h10126 m10129 m10129z
      exact absurd m10129z (Nat.lt_irrefl 0)
    | succ n10128 ih =>
      intro x10091 I10094 A10094 hI10094 hA10094 hV10094 h10126 m10129 m10129z
      refine g_iload_n hk dX6_takeFrom_12 rfl ?_
      refine g_aload_n hk dX6_takeFrom_13 rfl ?_
      refine gX_i24 (v := (I 24)) hk hin8 (List.mem_cons_of_mem _ (List.mem_append_left _ (List.mem_of_getElem? (i := 2) rfl))) dX6_takeFrom_14 (hI10094 24 rfl) ?_
      have b10130l := Int32.le_toInt x10091
      have b10130h := Int32.toInt_lt x10091
      have b10131l := Int32.le_toInt (I 24)
      have b10131h := Int32.toInt_lt (I 24)
      refine g_icmp_ge (tgt := 36) (a := x10091.toInt) (b := (I 24).toInt) hk dX6_takeFrom_17 (by decide) rfl rfl (fun c10132 => ?_) (fun c10132 => ?_)
      · skip
        exact g_vret hk hR ⟨I10094, A10094, (show Md [17, 18] I I10094 from (Md.tr (Md.up (Md.up Md.rf rfl) rfl) hI10094 rfl)), (show Md [7] A A10094 from (Md.tr Md.rf hA10094 rfl)), hV10094, rfl, rfl⟩ dX6_takeFrom_36
      · skip
        refine g_aload_n hk dX6_takeFrom_20 rfl ?_
        refine g_aload_n hk dX6_takeFrom_21 rfl ?_
        refine g_iload_n hk dX6_takeFrom_22 rfl ?_
        refine g_callV (n := 1) hk (k329_X8_valueAt l D zt q d I10094 A10094 x10091 hV10094) (SP.same _) (fun _ h => h) (gi_V (List.mem_cons_of_mem _ (List.mem_append_left _ (List.mem_of_getElem? (i := 3) rfl))) (List.mem_cons_of_mem _ (List.mem_append_left _ (List.mem_of_getElem? (i := 4) rfl))) (List.mem_cons_of_mem _ (List.mem_append_left _ (List.mem_of_getElem? (i := 5) rfl))) (List.mem_cons_of_mem _ (List.mem_append_left _ (List.mem_of_getElem? (i := 6) rfl))) (gi_sub (fun w h => (List.mem_cons_of_mem _ (List.mem_append_right _ (List.mem_append_right _ (List.mem_append_right _ (List.mem_append_left _ h)))))) zg_k329_X8_valueAt)) rfl rfl rfl (by decide +kernel) ⟨Nat.le_of_ble_eq_true rfl, Nat.le_of_ble_eq_true rfl⟩ 29 rfl rfl rfl rfl (Nat.le_of_ble_eq_true rfl) ⟨Nat.le_of_ble_eq_true rfl, Nat.le_of_ble_eq_true rfl⟩ dX6_takeFrom_23 (fun v ty' w' hp hk' => ?_)
        obtain ⟨y10133, rfl, rfl⟩ := hp
        show GW κ 3 0 0 (wX q d I10094 A10094) 26 [(2, .int x10091), (0, .ref (q 13)), (1, .ref (q 29))] [.int y10133, .ref (q 13)]
        refine g_callV (n := 1) hk (k172_X6_append l D zt q d I10094 A10094 y10133 hV10094) (SP.same _) (fun _ h => h) (gi_V (List.mem_cons_of_mem _ (List.mem_append_left _ (List.mem_of_getElem? (i := 7) rfl))) (List.mem_cons_of_mem _ (List.mem_append_left _ (List.mem_of_getElem? (i := 8) rfl))) (List.mem_cons_of_mem _ (List.mem_append_left _ (List.mem_of_getElem? (i := 9) rfl))) (List.mem_cons_of_mem _ (List.mem_append_left _ (List.mem_of_getElem? (i := 10) rfl))) (gi_sub (fun w h => (List.mem_cons_of_mem _ (List.mem_append_right _ (List.mem_append_right _ (List.mem_append_right _ (List.mem_append_right _ (List.mem_append_left _ h))))))) zg_k172_X6_append)) rfl rfl rfl (by decide +kernel) ⟨Nat.le_of_ble_eq_true rfl, Nat.le_of_ble_eq_true rfl⟩ 13 rfl rfl rfl rfl (Nat.le_of_ble_eq_true rfl) ⟨Nat.le_of_ble_eq_true rfl, Nat.le_of_ble_eq_true rfl⟩ dX6_takeFrom_26 (fun v ty' w' hp hk' => ?_)
        obtain ⟨I10137, A10137, hI10137, hA10137, hV10137, y10134, c10135, c10136, rfl, rfl⟩ := hp
        show GW κ 3 0 0 (wX q d I10137 A10137) 29 [(2, .int x10091), (0, .ref (q 13)), (1, .ref (q 29))] [.int y10134]
        refine g_pop hk dX6_takeFrom_29 rfl ?_
        obtain ⟨y10138, ey10138⟩ : ∃ y : Int32, y = x10091 + Int32.ofInt 1 := ⟨_, rfl⟩
        have hy10138 : y10138.toInt = x10091.toInt + 1 := i32_add ey10138 rfl (by decide) (by omega) (by omega)
        refine g_iinc (v := y10138) (lv' := [(2, .int y10138), (0, .ref (q 13)), (1, .ref (q 29))]) hk 0 dX6_takeFrom_30 rfl ey10138.symm (by decide) rfl ?_
        refine g_goto (tgt := 12) hk dX6_takeFrom_33 (by decide) ?_
        exact g_lv (List.forall_mem_cons.mpr ⟨List.mem_of_getElem? (i := 0) rfl, (List.forall_mem_cons.mpr ⟨List.mem_of_getElem? (i := 1) rfl, (List.forall_mem_cons.mpr ⟨List.mem_of_getElem? (i := 2) rfl, (fun _ h => absurd h List.not_mem_nil)⟩)⟩)⟩) (ih y10138 I10137 A10137 (show Md [17, 18] (upd (upd I 17 0) 18 0) I10137 from Md.tr hI10094 (show Md [17, 18] I10094 I10137 from (Md.tr Md.rf hI10137 rfl)) rfl) (show Md [7] A A10137 from Md.tr hA10094 (show Md [7] A10094 A10137 from (Md.tr Md.rf hA10137 rfl)) rfl) hV10137 (by omega) (by omega) (by omega))
  have k10140 : (0 : Int32).toInt = 0 := rfl
  obtain ⟨n10139, n10139a, n10139b⟩ : ∃ n : Nat, (I 24).toInt + 1 - 0 < (n : Int) ∧ 0 < n := ⟨(((I 24).toInt + 1 - 0 : Int)).toNat + 1, by omega, by omega⟩
  exact lp10127 n10139 0 (upd (upd I 17 0) 18 0) A Md.rf Md.rf ⟨(IvX_f0 (I := I) (A := A) hIv), ⟨by decide, by decide⟩, (IvX_f30 (I := I) (A := A) hIv), (IvX_f31 (I := I) (A := A) hIv), (IvX_a4 (I := I) (A := A) hIv), (IvX_a9 (I := I) (A := A) hIv), trivial⟩ (by omega) n10139a n10139b
def wo_k331_X7_valueOf : List Cond := [Cond.fieldLink RX7 20 "WarpDesk$Settings" "values" "[I"]
def wz_k331_X7_valueOf : List Cond := .code yX7_valueOf cX7_valueOf 2 (some .int) :: (wo_k331_X7_valueOf ++ (wsX70 ++ ([] : List Cond)))
theorem zg_k331_X7_valueOf : ∀ w ∈ wz_k331_X7_valueOf, goodWord w = true := zg_cons rfl (zg_app (by decide +kernel) (zg_app zgU_wsX70 zg_nil))
theorem zi_k331_X7_valueOf : ∀ w ∈ wz_k331_X7_valueOf, w ∈ lw_tbl := zi_cons zw_788 (zi_app (zi_cons zw_190 zi_nil) (zi_app inX7 zi_nil))
set_option maxHeartbeats 4000000 in
set_option maxRecDepth 100000 in
theorem k331_X7_valueOf (l : Launch) (D : va_G) (zt : Nat × Nat × Nat × (Nat → Nat) × (Nat → Nat)) (q : Nat → Nat) (d : Nat → ClassId) (I : Nat → Int32) (A : Nat → Nat → Int32) (z1 : Int32) (hIv : IvX I A) : GM l D zt (tyX d) yX7_valueOf wz_k331_X7_valueOf ({ frames := 0, cells := 0, slots := 0, locals := 0 } : Room) [.ref (q 31), .int z1] (wX q d I A) (fun v _ w' => ∃ y0 : Int32, v = some (.int y0) ∧ w' = wX q d I A) 0 0 := by
  refine GM.of (cc := cX7_valueOf) (maxL := 2) (ret := (some .int)) (own := RX7) (lv := [(0, .ref (q 31)), (1, .int z1)]) (by decide) rfl rfl (Nat.le_of_ble_eq_true rfl) rfl (fun κ sz hk hR hN => ?_)
  have hin7 : ∀ w ∈ u_ws RX7 TX7 1, w ∈ wz_k331_X7_valueOf := fun w h => (List.mem_cons_of_mem _ (List.mem_append_right _ (List.mem_append_left _ h)))
  refine g_iload_n hk dX7_valueOf_0 rfl ?_
  have b10147l := Int32.le_toInt z1
  have b10147h := Int32.toInt_lt z1
  refine g_if_lt (tgt := 22) (a := z1.toInt) hk dX7_valueOf_1 (by decide) rfl (fun c10148 => ?_) (fun c10148 => ?_)
  · skip
    refine g_iconst (v := (-1)) hk dX7_valueOf_22 (by decide) ?_
    exact g_iret hk hR rfl ⟨(-1), rfl, rfl⟩ dX7_valueOf_23
  · skip
    refine g_iload_n hk dX7_valueOf_4 rfl ?_
    refine g_aload_n hk dX7_valueOf_5 rfl ?_
    refine gX_r31_0 hk hin7 (List.mem_cons_of_mem _ (List.mem_append_left _ (List.mem_of_getElem? (i := 0) rfl))) dX7_valueOf_6 ?_
    refine nX_18 hk dX7_valueOf_9 ?_
    refine g_icmp_ge (tgt := 22) (a := z1.toInt) (b := 4) hk dX7_valueOf_10 (by decide) rfl rfl (fun c10149 => ?_) (fun c10149 => ?_)
    · skip
      refine g_iconst (v := (-1)) hk dX7_valueOf_22 (by decide) ?_
      exact g_iret hk hR rfl ⟨(-1), rfl, rfl⟩ dX7_valueOf_23
    · skip
      refine g_aload_n hk dX7_valueOf_13 rfl ?_
      refine gX_r31_0 hk hin7 (List.mem_cons_of_mem _ (List.mem_append_left _ (List.mem_of_getElem? (i := 0) rfl))) dX7_valueOf_14 ?_
      refine g_iload_n hk dX7_valueOf_17 rfl ?_
      refine lX_18 (v := (A 18 z1.toNatClampNeg)) hk (vp_in_iff.mpr ⟨by omega, by omega⟩) rfl dX7_valueOf_18 ?_
      refine g_goto (tgt := 23) hk dX7_valueOf_19 (by decide) ?_
      have b10150l := Int32.le_toInt (A 18 z1.toNatClampNeg)
      have b10150h := Int32.toInt_lt (A 18 z1.toNatClampNeg)
      exact g_iret hk hR rfl ⟨(A 18 z1.toNatClampNeg), rfl, rfl⟩ dX7_valueOf_23
def wo_k330_X7_takeFrom : List Cond := [Cond.fieldLink RX7 20 "WarpDesk$Settings" "values" "[I", Cond.methodLink RX7 33 yX7_valueOf, Cond.instanceMethod yX7_valueOf, Cond.selects RX7 yX7_valueOf yX7_valueOf, Cond.initialized RX7]
def wz_k330_X7_takeFrom : List Cond := .code yX7_takeFrom cX7_takeFrom 3 none :: (wo_k330_X7_takeFrom ++ (wsX70 ++ (wz_k331_X7_valueOf ++ ([] : List Cond))))
theorem zg_k330_X7_takeFrom : ∀ w ∈ wz_k330_X7_takeFrom, goodWord w = true := zg_cons rfl (zg_app (by decide +kernel) (zg_app zgU_wsX70 (zg_app zg_k331_X7_valueOf zg_nil)))
theorem zi_k330_X7_takeFrom : ∀ w ∈ wz_k330_X7_takeFrom, w ∈ lw_tbl := zi_cons zw_784 (zi_app (zi_cons zw_190 (zi_cons zw_785 (zi_cons zw_786 (zi_cons zw_787 (zi_cons zw_107 zi_nil))))) (zi_app inX7 (zi_app zi_k331_X7_valueOf zi_nil)))
set_option maxHeartbeats 4000000 in
set_option maxRecDepth 100000 in
theorem k330_X7_takeFrom (l : Launch) (D : va_G) (zt : Nat × Nat × Nat × (Nat → Nat) × (Nat → Nat)) (q : Nat → Nat) (d : Nat → ClassId) (I : Nat → Int32) (A : Nat → Nat → Int32) (hIv : IvX I A) : GM l D zt (tyX d) yX7_takeFrom wz_k330_X7_takeFrom ({ frames := 1, cells := 0, slots := 0, locals := 21 } : Room) [.ref (q 18), .ref (q 31)] (wX q d I A) (fun v _ w' => ∃ (I' : Nat → Int32) (A' : Nat → Nat → Int32), Md [] I I' ∧ Md [10] A A' ∧ IvX I' A' ∧ v = none ∧ w' = wX q d I' A') 0 0 := by
  refine GM.of (cc := cX7_takeFrom) (maxL := 3) (ret := none) (own := RX7) (lv := [(0, .ref (q 18)), (1, .ref (q 31))]) (by decide) rfl rfl (Nat.le_of_ble_eq_true rfl) rfl (fun κ sz hk hR hN => ?_)
  have hin7 : ∀ w ∈ u_ws RX7 TX7 1, w ∈ wz_k330_X7_takeFrom := fun w h => (List.mem_cons_of_mem _ (List.mem_append_right _ (List.mem_append_left _ h)))
  refine g_iconst (v := 0) hk dX7_takeFrom_0 (by decide) ?_
  refine g_istore_n (lv' := [(2, .int 0), (0, .ref (q 18)), (1, .ref (q 31))]) hk dX7_takeFrom_1 (by decide) rfl ?_
  have lp10164 : ∀ (n10165 : Nat) (x10143 : Int32) (I10146 : Nat → Int32) (A10146 : Nat → Nat → Int32), (Md [] I I10146) → (Md [10] A A10146) → (IvX I10146 A10146) → (0 ≤ x10143.toInt) → (x10143.toInt ≤ 4) → (5 - x10143.toInt < (n10165 : Int)) → (0 < n10165) → GW κ 3 0 0 (wX q d I10146 A10146) 2 [(2, .int x10143), (0, .ref (q 18)), (1, .ref (q 31))] [] := by
    intro n10165
    induction n10165 with
    | zero =>
      intro x10143 I10146 A10146 hI10146 hA10146 hV10146 h10162 h10163 m10166 m10166z
      exact absurd m10166z (Nat.lt_irrefl 0)
    | succ n10165 ih =>
      intro x10143 I10146 A10146 hI10146 hA10146 hV10146 h10162 h10163 m10166 m10166z
      refine g_iload_n hk dX7_takeFrom_2 rfl ?_
      refine g_aload_n hk dX7_takeFrom_3 rfl ?_
      refine gX_r18_0 hk hin7 (List.mem_cons_of_mem _ (List.mem_append_left _ (List.mem_of_getElem? (i := 0) rfl))) dX7_takeFrom_4 ?_
      refine nX_10 hk dX7_takeFrom_7 ?_
      refine g_icmp_ge (tgt := 28) (a := x10143.toInt) (b := 4) hk dX7_takeFrom_8 (by decide) rfl rfl (fun c10167 => ?_) (fun c10167 => ?_)
      · skip
        exact g_vret hk hR ⟨I10146, A10146, (show Md [] I I10146 from (Md.tr Md.rf hI10146 rfl)), (show Md [10] A A10146 from (Md.tr Md.rf hA10146 rfl)), hV10146, rfl, rfl⟩ dX7_takeFrom_28
      · skip
        refine g_aload_n hk dX7_takeFrom_11 rfl ?_
        refine gX_r18_0 hk hin7 (List.mem_cons_of_mem _ (List.mem_append_left _ (List.mem_of_getElem? (i := 0) rfl))) dX7_takeFrom_12 ?_
        refine g_iload_n hk dX7_takeFrom_15 rfl ?_
        refine g_aload_n hk dX7_takeFrom_16 rfl ?_
        refine g_iload_n hk dX7_takeFrom_17 rfl ?_
        refine g_callV (n := 1) hk (k331_X7_valueOf l D zt q d I10146 A10146 x10143 hV10146) (SP.same _) (fun _ h => h) (gi_V (List.mem_cons_of_mem _ (List.mem_append_left _ (List.mem_of_getElem? (i := 1) rfl))) (List.mem_cons_of_mem _ (List.mem_append_left _ (List.mem_of_getElem? (i := 2) rfl))) (List.mem_cons_of_mem _ (List.mem_append_left _ (List.mem_of_getElem? (i := 3) rfl))) (List.mem_cons_of_mem _ (List.mem_append_left _ (List.mem_of_getElem? (i := 4) rfl))) (gi_sub (fun w h => (List.mem_cons_of_mem _ (List.mem_append_right _ (List.mem_append_right _ (List.mem_append_left _ h))))) zg_k331_X7_valueOf)) rfl rfl rfl (by decide +kernel) ⟨Nat.le_of_ble_eq_true rfl, Nat.le_of_ble_eq_true rfl⟩ 31 rfl rfl rfl rfl (Nat.le_of_ble_eq_true rfl) ⟨Nat.le_of_ble_eq_true rfl, Nat.le_of_ble_eq_true rfl⟩ dX7_takeFrom_18 (fun v ty' w' hp hk' => ?_)
        obtain ⟨y10168, rfl, rfl⟩ := hp
        show GW κ 3 0 0 (wX q d I10146 A10146) 21 [(2, .int x10143), (0, .ref (q 18)), (1, .ref (q 31))] [.int y10168, .int x10143, .ref (q 19)]
        refine sX_10 (j := x10143.toNatClampNeg) hk (vp_in_iff.mpr ⟨by omega, by omega⟩) rfl dX7_takeFrom_21 ?_
        obtain ⟨y10169, ey10169⟩ : ∃ y : Int32, y = x10143 + Int32.ofInt 1 := ⟨_, rfl⟩
        have hy10169 : y10169.toInt = x10143.toInt + 1 := i32_add ey10169 rfl (by decide) (by omega) (by omega)
        refine g_iinc (v := y10169) (lv' := [(2, .int y10169), (0, .ref (q 18)), (1, .ref (q 31))]) hk 0 dX7_takeFrom_22 rfl ey10169.symm (by decide) rfl ?_
        refine g_goto (tgt := 2) hk dX7_takeFrom_25 (by decide) ?_
        exact g_lv (List.forall_mem_cons.mpr ⟨List.mem_of_getElem? (i := 0) rfl, (List.forall_mem_cons.mpr ⟨List.mem_of_getElem? (i := 1) rfl, (List.forall_mem_cons.mpr ⟨List.mem_of_getElem? (i := 2) rfl, (fun _ h => absurd h List.not_mem_nil)⟩)⟩)⟩) (ih y10169 I10146 (up3 A10146 10 (x10143.toNatClampNeg) y10168) (show Md [] I I10146 from Md.tr hI10146 (show Md [] I10146 I10146 from Md.rf) rfl) (show Md [10] A (up3 A10146 10 (x10143.toNatClampNeg) y10168) from Md.tr hA10146 (show Md [10] A10146 (up3 A10146 10 (x10143.toNatClampNeg) y10168) from (Md.up3 Md.rf rfl)) rfl) ⟨(IvX_f0 (I := I10146) (A := A10146) hV10146), (IvX_f18 (I := I10146) (A := A10146) hV10146), (IvX_f30 (I := I10146) (A := A10146) hV10146), (IvX_f31 (I := I10146) (A := A10146) hV10146), (IvX_a4 (I := I10146) (A := A10146) hV10146), (IvX_a9 (I := I10146) (A := A10146) hV10146), trivial⟩ (by omega) (by omega) (by omega) (by omega))
  have k10171 : (0 : Int32).toInt = 0 := rfl
  obtain ⟨n10170, n10170a, n10170b⟩ : ∃ n : Nat, 5 - 0 < (n : Int) ∧ 0 < n := ⟨((5 - 0 : Int)).toNat + 1, by omega, by omega⟩
  exact lp10164 n10170 0 I A Md.rf Md.rf hIv (by omega) (by omega) n10170a n10170b
def wo_k327_X11_goOnFrom : List Cond := [Cond.fieldLink RX11 28 "WarpDesk" "series" "LWarpDesk$Series;", Cond.methodLink RX11 369 yX6_takeFrom, Cond.instanceMethod yX6_takeFrom, Cond.selects RX6 yX6_takeFrom yX6_takeFrom, Cond.initialized RX6, Cond.fieldLink RX11 42 "WarpDesk" "settings" "LWarpDesk$Settings;", Cond.fieldLink RX11 365 "WarpDesk$Stand" "settings" "LWarpDesk$Settings;", Cond.methodLink RX11 366 yX7_takeFrom, Cond.instanceMethod yX7_takeFrom, Cond.selects RX7 yX7_takeFrom yX7_takeFrom, Cond.initialized RX7, Cond.fieldLink RX11 49 "WarpDesk" "past" "LWarpDesk$Past;", Cond.methodLink RX11 371 yX3_forget, Cond.instanceMethod yX3_forget, Cond.selects RX3 yX3_forget yX3_forget, Cond.initialized RX3]
def wz_k327_X11_goOnFrom : List Cond := .code yX11_goOnFrom cX11_goOnFrom 2 none :: (wo_k327_X11_goOnFrom ++ (wsX80 ++ (wsX110 ++ (wz_k328_X6_takeFrom ++ (wz_k330_X7_takeFrom ++ (wz_k175_X3_forget ++ ([] : List Cond)))))))
theorem zg_k327_X11_goOnFrom : ∀ w ∈ wz_k327_X11_goOnFrom, goodWord w = true := zg_cons rfl (zg_app (by decide +kernel) (zg_app zgU_wsX80 (zg_app zgU_wsX110 (zg_app zg_k328_X6_takeFrom (zg_app zg_k330_X7_takeFrom (zg_app zg_k175_X3_forget zg_nil))))))
theorem zi_k327_X11_goOnFrom : ∀ w ∈ wz_k327_X11_goOnFrom, w ∈ lw_tbl := zi_cons zw_768 (zi_app (zi_cons zw_489 (zi_cons zw_769 (zi_cons zw_770 (zi_cons zw_771 (zi_cons zw_109 (zi_cons zw_491 (zi_cons zw_200 (zi_cons zw_781 (zi_cons zw_782 (zi_cons zw_783 (zi_cons zw_107 (zi_cons zw_492 (zi_cons zw_789 (zi_cons zw_790 (zi_cons zw_791 (zi_cons zw_110 zi_nil)))))))))))))))) (zi_app inX8 (zi_app inX11 (zi_app zi_k328_X6_takeFrom (zi_app zi_k330_X7_takeFrom (zi_app zi_k175_X3_forget zi_nil))))))
set_option maxHeartbeats 4000000 in
set_option maxRecDepth 100000 in
theorem k327_X11_goOnFrom (l : Launch) (D : va_G) (zt : Nat × Nat × Nat × (Nat → Nat) × (Nat → Nat)) (q : Nat → Nat) (d : Nat → ClassId) (I : Nat → Int32) (A : Nat → Nat → Int32) (hIv : IvX I A) : GM l D zt (tyX d) yX11_goOnFrom wz_k327_X11_goOnFrom ({ frames := 2, cells := 0, slots := 0, locals := 43 } : Room) [.ref (q 0), .ref (q 29)] (wX q d I A) (fun v _ w' => ∃ (I' : Nat → Int32) (A' : Nat → Nat → Int32), Md [17, 18, 21] I I' ∧ Md [7, 10] A A' ∧ IvX I' A' ∧ v = none ∧ w' = wX q d I' A') 0 0 := by
  refine GM.of (cc := cX11_goOnFrom) (maxL := 2) (ret := none) (own := RX11) (lv := [(0, .ref (q 0)), (1, .ref (q 29))]) (by decide) rfl rfl (Nat.le_of_ble_eq_true rfl) rfl (fun κ sz hk hR hN => ?_)
  have hin8 : ∀ w ∈ u_ws RX8 TX8 4, w ∈ wz_k327_X11_goOnFrom := fun w h => (List.mem_cons_of_mem _ (List.mem_append_right _ (List.mem_append_left _ h)))
  have hin11 : ∀ w ∈ u_ws RX11 TX11 10, w ∈ wz_k327_X11_goOnFrom := fun w h => (List.mem_cons_of_mem _ (List.mem_append_right _ (List.mem_append_right _ (List.mem_append_left _ h))))
  refine g_aload_n hk dX11_goOnFrom_0 rfl ?_
  refine gX_r0_2 hk hin11 (List.mem_cons_of_mem _ (List.mem_append_left _ (List.mem_of_getElem? (i := 0) rfl))) dX11_goOnFrom_1 ?_
  refine g_aload_n hk dX11_goOnFrom_4 rfl ?_
  refine g_callV (n := 1) hk (k328_X6_takeFrom l D zt q d I A  hIv) (SP.same _) (fun _ h => h) (gi_V (List.mem_cons_of_mem _ (List.mem_append_left _ (List.mem_of_getElem? (i := 1) rfl))) (List.mem_cons_of_mem _ (List.mem_append_left _ (List.mem_of_getElem? (i := 2) rfl))) (List.mem_cons_of_mem _ (List.mem_append_left _ (List.mem_of_getElem? (i := 3) rfl))) (List.mem_cons_of_mem _ (List.mem_append_left _ (List.mem_of_getElem? (i := 4) rfl))) (gi_sub (fun w h => (List.mem_cons_of_mem _ (List.mem_append_right _ (List.mem_append_right _ (List.mem_append_right _ (List.mem_append_left _ h)))))) zg_k328_X6_takeFrom)) rfl rfl rfl (by decide +kernel) ⟨Nat.le_of_ble_eq_true rfl, Nat.le_of_ble_eq_true rfl⟩ 13 rfl rfl rfl rfl (Nat.le_of_ble_eq_true rfl) ⟨Nat.le_of_ble_eq_true rfl, Nat.le_of_ble_eq_true rfl⟩ dX11_goOnFrom_5 (fun v ty' w' hp hk' => ?_)
  obtain ⟨I10142, A10142, hI10142, hA10142, hV10142, rfl, rfl⟩ := hp
  show GW κ 2 0 0 (wX q d I10142 A10142) 8 [(0, .ref (q 0)), (1, .ref (q 29))] []
  refine g_aload_n hk dX11_goOnFrom_8 rfl ?_
  refine gX_r0_4 hk hin11 (List.mem_cons_of_mem _ (List.mem_append_left _ (List.mem_of_getElem? (i := 5) rfl))) dX11_goOnFrom_9 ?_
  refine g_aload_n hk dX11_goOnFrom_12 rfl ?_
  refine gX_r29_2 hk hin8 (List.mem_cons_of_mem _ (List.mem_append_left _ (List.mem_of_getElem? (i := 6) rfl))) dX11_goOnFrom_13 ?_
  refine g_callV (n := 1) hk (k330_X7_takeFrom l D zt q d I10142 A10142  hV10142) (SP.same _) (fun _ h => h) (gi_V (List.mem_cons_of_mem _ (List.mem_append_left _ (List.mem_of_getElem? (i := 7) rfl))) (List.mem_cons_of_mem _ (List.mem_append_left _ (List.mem_of_getElem? (i := 8) rfl))) (List.mem_cons_of_mem _ (List.mem_append_left _ (List.mem_of_getElem? (i := 9) rfl))) (List.mem_cons_of_mem _ (List.mem_append_left _ (List.mem_of_getElem? (i := 10) rfl))) (gi_sub (fun w h => (List.mem_cons_of_mem _ (List.mem_append_right _ (List.mem_append_right _ (List.mem_append_right _ (List.mem_append_right _ (List.mem_append_left _ h))))))) zg_k330_X7_takeFrom)) rfl rfl rfl (by decide +kernel) ⟨Nat.le_of_ble_eq_true rfl, Nat.le_of_ble_eq_true rfl⟩ 18 rfl rfl rfl rfl (Nat.le_of_ble_eq_true rfl) ⟨Nat.le_of_ble_eq_true rfl, Nat.le_of_ble_eq_true rfl⟩ dX11_goOnFrom_16 (fun v ty' w' hp hk' => ?_)
  obtain ⟨I10173, A10173, hI10173, hA10173, hV10173, rfl, rfl⟩ := hp
  show GW κ 2 0 0 (wX q d I10173 A10173) 19 [(0, .ref (q 0)), (1, .ref (q 29))] []
  refine g_aload_n hk dX11_goOnFrom_19 rfl ?_
  refine gX_r0_5 hk hin11 (List.mem_cons_of_mem _ (List.mem_append_left _ (List.mem_of_getElem? (i := 11) rfl))) dX11_goOnFrom_20 ?_
  refine g_callV (n := 0) hk (k175_X3_forget l D zt q d I10173 A10173  hV10173) (SP.same _) (fun _ h => h) (gi_V (List.mem_cons_of_mem _ (List.mem_append_left _ (List.mem_of_getElem? (i := 12) rfl))) (List.mem_cons_of_mem _ (List.mem_append_left _ (List.mem_of_getElem? (i := 13) rfl))) (List.mem_cons_of_mem _ (List.mem_append_left _ (List.mem_of_getElem? (i := 14) rfl))) (List.mem_cons_of_mem _ (List.mem_append_left _ (List.mem_of_getElem? (i := 15) rfl))) (gi_sub (fun w h => (List.mem_cons_of_mem _ (List.mem_append_right _ (List.mem_append_right _ (List.mem_append_right _ (List.mem_append_right _ (List.mem_append_right _ (List.mem_append_left _ h)))))))) zg_k175_X3_forget)) rfl rfl rfl (by decide +kernel) ⟨Nat.le_of_ble_eq_true rfl, Nat.le_of_ble_eq_true rfl⟩ 20 rfl rfl rfl rfl (Nat.le_of_ble_eq_true rfl) ⟨Nat.le_of_ble_eq_true rfl, Nat.le_of_ble_eq_true rfl⟩ dX11_goOnFrom_23 (fun v ty' w' hp hk' => ?_)
  obtain ⟨I10175, A10175, hI10175, hA10175, hV10175, rfl, rfl⟩ := hp
  show GW κ 2 0 0 (wX q d I10175 A10175) 26 [(0, .ref (q 0)), (1, .ref (q 29))] []
  exact g_vret hk hR ⟨I10175, A10175, (show Md [17, 18, 21] I I10175 from (Md.tr (Md.tr (Md.tr Md.rf hI10142 rfl) hI10173 rfl) hI10175 rfl)), (show Md [7, 10] A A10175 from (Md.tr (Md.tr (Md.tr Md.rf hA10142 rfl) hA10173 rfl) hA10175 rfl)), hV10175, rfl, rfl⟩ dX11_goOnFrom_26
def wo_k334_X8_valueAt : List Cond := [Cond.fieldLink RX8 22 "WarpDesk$Stand" "size" "I", Cond.fieldLink RX8 9 "WarpDesk$Stand" "places" "[I"]
def wz_k334_X8_valueAt : List Cond := .code yX8_valueAt cX8_valueAt 2 (some .int) :: (wo_k334_X8_valueAt ++ (wsX80 ++ ([] : List Cond)))
theorem zg_k334_X8_valueAt : ∀ w ∈ wz_k334_X8_valueAt, goodWord w = true := zg_cons rfl (zg_app (by decide +kernel) (zg_app zgU_wsX80 zg_nil))
theorem zi_k334_X8_valueAt : ∀ w ∈ wz_k334_X8_valueAt, w ∈ lw_tbl := zi_cons zw_776 (zi_app (zi_cons zw_195 (zi_cons zw_194 zi_nil)) (zi_app inX8 zi_nil))
set_option maxHeartbeats 4000000 in
set_option maxRecDepth 100000 in
theorem k334_X8_valueAt (l : Launch) (D : va_G) (zt : Nat × Nat × Nat × (Nat → Nat) × (Nat → Nat)) (q : Nat → Nat) (d : Nat → ClassId) (I : Nat → Int32) (A : Nat → Nat → Int32) (z1 : Int32) (hIv : IvX I A) : GM l D zt (tyX d) yX8_valueAt wz_k334_X8_valueAt ({ frames := 0, cells := 0, slots := 0, locals := 0 } : Room) [.ref (q 33), .int z1] (wX q d I A) (fun v _ w' => ∃ y0 : Int32, v = some (.int y0) ∧ w' = wX q d I A) 0 0 := by
  refine GM.of (cc := cX8_valueAt) (maxL := 2) (ret := (some .int)) (own := RX8) (lv := [(0, .ref (q 33)), (1, .int z1)]) (by decide) rfl rfl (Nat.le_of_ble_eq_true rfl) rfl (fun κ sz hk hR hN => ?_)
  have hin8 : ∀ w ∈ u_ws RX8 TX8 4, w ∈ wz_k334_X8_valueAt := fun w h => (List.mem_cons_of_mem _ (List.mem_append_right _ (List.mem_append_left _ h)))
  refine g_iload_n hk dX8_valueAt_0 rfl ?_
  have b10187l := Int32.le_toInt z1
  have b10187h := Int32.toInt_lt z1
  refine g_if_lt (tgt := 30) (a := z1.toInt) hk dX8_valueAt_1 (by decide) rfl (fun c10188 => ?_) (fun c10188 => ?_)
  · skip
    refine g_sipush (v := (-1000)) hk dX8_valueAt_30 (by decide) ?_
    exact g_iret hk hR rfl ⟨(-1000), rfl, rfl⟩ dX8_valueAt_33
  · skip
    refine g_iload_n hk dX8_valueAt_4 rfl ?_
    refine g_aload_n hk dX8_valueAt_5 rfl ?_
    refine gX_i26 (v := (I 26)) hk hin8 (List.mem_cons_of_mem _ (List.mem_append_left _ (List.mem_of_getElem? (i := 0) rfl))) dX8_valueAt_6 rfl ?_
    have b10189l := Int32.le_toInt (I 26)
    have b10189h := Int32.toInt_lt (I 26)
    refine g_icmp_ge (tgt := 30) (a := z1.toInt) (b := (I 26).toInt) hk dX8_valueAt_9 (by decide) rfl rfl (fun c10190 => ?_) (fun c10190 => ?_)
    · skip
      refine g_sipush (v := (-1000)) hk dX8_valueAt_30 (by decide) ?_
      exact g_iret hk hR rfl ⟨(-1000), rfl, rfl⟩ dX8_valueAt_33
    · skip
      refine g_iload_n hk dX8_valueAt_12 rfl ?_
      refine g_aload_n hk dX8_valueAt_13 rfl ?_
      refine gX_r33_0 hk hin8 (List.mem_cons_of_mem _ (List.mem_append_left _ (List.mem_of_getElem? (i := 1) rfl))) dX8_valueAt_14 ?_
      refine nX_19 hk dX8_valueAt_17 ?_
      refine g_icmp_ge (tgt := 30) (a := z1.toInt) (b := 160) hk dX8_valueAt_18 (by decide) rfl rfl (fun c10191 => ?_) (fun c10191 => ?_)
      · skip
        refine g_sipush (v := (-1000)) hk dX8_valueAt_30 (by decide) ?_
        exact g_iret hk hR rfl ⟨(-1000), rfl, rfl⟩ dX8_valueAt_33
      · skip
        refine g_aload_n hk dX8_valueAt_21 rfl ?_
        refine gX_r33_0 hk hin8 (List.mem_cons_of_mem _ (List.mem_append_left _ (List.mem_of_getElem? (i := 1) rfl))) dX8_valueAt_22 ?_
        refine g_iload_n hk dX8_valueAt_25 rfl ?_
        refine lX_19 (v := (A 19 z1.toNatClampNeg)) hk (vp_in_iff.mpr ⟨by omega, by omega⟩) rfl dX8_valueAt_26 ?_
        refine g_goto (tgt := 33) hk dX8_valueAt_27 (by decide) ?_
        have b10192l := Int32.le_toInt (A 19 z1.toNatClampNeg)
        have b10192h := Int32.toInt_lt (A 19 z1.toNatClampNeg)
        exact g_iret hk hR rfl ⟨(A 19 z1.toNatClampNeg), rfl, rfl⟩ dX8_valueAt_33
def wo_k333_X6_takeFrom : List Cond := [Cond.fieldLink RX6 15 "WarpDesk$Series" "first" "I", Cond.fieldLink RX6 19 "WarpDesk$Series" "size" "I", Cond.fieldLink RX6 22 "WarpDesk$Stand" "size" "I", Cond.methodLink RX6 25 yX8_valueAt, Cond.instanceMethod yX8_valueAt, Cond.selects RX8 yX8_valueAt yX8_valueAt, Cond.initialized RX8, Cond.methodLink RX6 29 yX6_append, Cond.instanceMethod yX6_append, Cond.selects RX6 yX6_append yX6_append, Cond.initialized RX6]
def wz_k333_X6_takeFrom : List Cond := .code yX6_takeFrom cX6_takeFrom 3 none :: (wo_k333_X6_takeFrom ++ (wsX60 ++ (wsX80 ++ (wz_k334_X8_valueAt ++ (wz_k172_X6_append ++ ([] : List Cond))))))
theorem zg_k333_X6_takeFrom : ∀ w ∈ wz_k333_X6_takeFrom, goodWord w = true := zg_cons rfl (zg_app (by decide +kernel) (zg_app zgU_wsX60 (zg_app zgU_wsX80 (zg_app zg_k334_X8_valueAt (zg_app zg_k172_X6_append zg_nil)))))
theorem zi_k333_X6_takeFrom : ∀ w ∈ wz_k333_X6_takeFrom, w ∈ lw_tbl := zi_cons zw_772 (zi_app (zi_cons zw_281 (zi_cons zw_282 (zi_cons zw_196 (zi_cons zw_773 (zi_cons zw_774 (zi_cons zw_775 (zi_cons zw_106 (zi_cons zw_777 (zi_cons zw_778 (zi_cons zw_779 (zi_cons zw_109 zi_nil))))))))))) (zi_app inX6 (zi_app inX8 (zi_app zi_k334_X8_valueAt (zi_app zi_k172_X6_append zi_nil)))))
set_option maxHeartbeats 4000000 in
set_option maxRecDepth 100000 in
theorem k333_X6_takeFrom (l : Launch) (D : va_G) (zt : Nat × Nat × Nat × (Nat → Nat) × (Nat → Nat)) (q : Nat → Nat) (d : Nat → ClassId) (I : Nat → Int32) (A : Nat → Nat → Int32) (hIv : IvX I A) : GM l D zt (tyX d) yX6_takeFrom wz_k333_X6_takeFrom ({ frames := 1, cells := 0, slots := 0, locals := 21 } : Room) [.ref (q 13), .ref (q 33)] (wX q d I A) (fun v _ w' => ∃ (I' : Nat → Int32) (A' : Nat → Nat → Int32), Md [17, 18] I I' ∧ Md [7] A A' ∧ IvX I' A' ∧ v = none ∧ w' = wX q d I' A') 0 0 := by
  refine GM.of (cc := cX6_takeFrom) (maxL := 3) (ret := none) (own := RX6) (lv := [(0, .ref (q 13)), (1, .ref (q 33))]) (by decide) rfl rfl (Nat.le_of_ble_eq_true rfl) rfl (fun κ sz hk hR hN => ?_)
  have hin6 : ∀ w ∈ u_ws RX6 TX6 3, w ∈ wz_k333_X6_takeFrom := fun w h => (List.mem_cons_of_mem _ (List.mem_append_right _ (List.mem_append_left _ h)))
  have hin8 : ∀ w ∈ u_ws RX8 TX8 4, w ∈ wz_k333_X6_takeFrom := fun w h => (List.mem_cons_of_mem _ (List.mem_append_right _ (List.mem_append_right _ (List.mem_append_left _ h))))
  refine g_aload_n hk dX6_takeFrom_0 rfl ?_
  refine g_iconst (v := 0) hk dX6_takeFrom_1 (by decide) ?_
  refine pX_i17 hk hin6 (List.mem_cons_of_mem _ (List.mem_append_left _ (List.mem_of_getElem? (i := 0) rfl))) dX6_takeFrom_2 ?_
  refine g_aload_n hk dX6_takeFrom_5 rfl ?_
  refine g_iconst (v := 0) hk dX6_takeFrom_6 (by decide) ?_
  refine pX_i18 hk hin6 (List.mem_cons_of_mem _ (List.mem_append_left _ (List.mem_of_getElem? (i := 1) rfl))) dX6_takeFrom_7 ?_
  refine g_iconst (v := 0) hk dX6_takeFrom_10 (by decide) ?_
  refine g_istore_n (lv' := [(2, .int 0), (0, .ref (q 13)), (1, .ref (q 33))]) hk dX6_takeFrom_11 (by decide) rfl ?_
  have lp10217 : ∀ (n10218 : Nat) (x10181 : Int32) (I10184 : Nat → Int32) (A10184 : Nat → Nat → Int32), (Md [17, 18] (upd (upd I 17 0) 18 0) I10184) → (Md [7] A A10184) → (IvX I10184 A10184) → (0 ≤ x10181.toInt) → ((I 26).toInt + 1 - x10181.toInt < (n10218 : Int)) → (0 < n10218) → GW κ 3 0 0 (wX q d I10184 A10184) 12 [(2, .int x10181), (0, .ref (q 13)), (1, .ref (q 33))] [] := by
    intro n10218
    induction n10218 with
    | zero =>
      intro x10181 I10184 A10184 hI10184 hA10184 hV10184 h10216 m10219 m10219z
      exact absurd m10219z (Nat.lt_irrefl 0)
    | succ n10218 ih =>
      intro x10181 I10184 A10184 hI10184 hA10184 hV10184 h10216 m10219 m10219z
      refine g_iload_n hk dX6_takeFrom_12 rfl ?_
      refine g_aload_n hk dX6_takeFrom_13 rfl ?_
      refine gX_i26 (v := (I 26)) hk hin8 (List.mem_cons_of_mem _ (List.mem_append_left _ (List.mem_of_getElem? (i := 2) rfl))) dX6_takeFrom_14 (hI10184 26 rfl) ?_
      have b10220l := Int32.le_toInt x10181
      have b10220h := Int32.toInt_lt x10181
      have b10221l := Int32.le_toInt (I 26)
      have b10221h := Int32.toInt_lt (I 26)
      refine g_icmp_ge (tgt := 36) (a := x10181.toInt) (b := (I 26).toInt) hk dX6_takeFrom_17 (by decide) rfl rfl (fun c10222 => ?_) (fun c10222 => ?_)
      · skip
        exact g_vret hk hR ⟨I10184, A10184, (show Md [17, 18] I I10184 from (Md.tr (Md.up (Md.up Md.rf rfl) rfl) hI10184 rfl)), (show Md [7] A A10184 from (Md.tr Md.rf hA10184 rfl)), hV10184, rfl, rfl⟩ dX6_takeFrom_36
      · skip
        refine g_aload_n hk dX6_takeFrom_20 rfl ?_
        refine g_aload_n hk dX6_takeFrom_21 rfl ?_
        refine g_iload_n hk dX6_takeFrom_22 rfl ?_
        refine g_callV (n := 1) hk (k334_X8_valueAt l D zt q d I10184 A10184 x10181 hV10184) (SP.same _) (fun _ h => h) (gi_V (List.mem_cons_of_mem _ (List.mem_append_left _ (List.mem_of_getElem? (i := 3) rfl))) (List.mem_cons_of_mem _ (List.mem_append_left _ (List.mem_of_getElem? (i := 4) rfl))) (List.mem_cons_of_mem _ (List.mem_append_left _ (List.mem_of_getElem? (i := 5) rfl))) (List.mem_cons_of_mem _ (List.mem_append_left _ (List.mem_of_getElem? (i := 6) rfl))) (gi_sub (fun w h => (List.mem_cons_of_mem _ (List.mem_append_right _ (List.mem_append_right _ (List.mem_append_right _ (List.mem_append_left _ h)))))) zg_k334_X8_valueAt)) rfl rfl rfl (by decide +kernel) ⟨Nat.le_of_ble_eq_true rfl, Nat.le_of_ble_eq_true rfl⟩ 33 rfl rfl rfl rfl (Nat.le_of_ble_eq_true rfl) ⟨Nat.le_of_ble_eq_true rfl, Nat.le_of_ble_eq_true rfl⟩ dX6_takeFrom_23 (fun v ty' w' hp hk' => ?_)
        obtain ⟨y10223, rfl, rfl⟩ := hp
        show GW κ 3 0 0 (wX q d I10184 A10184) 26 [(2, .int x10181), (0, .ref (q 13)), (1, .ref (q 33))] [.int y10223, .ref (q 13)]
        refine g_callV (n := 1) hk (k172_X6_append l D zt q d I10184 A10184 y10223 hV10184) (SP.same _) (fun _ h => h) (gi_V (List.mem_cons_of_mem _ (List.mem_append_left _ (List.mem_of_getElem? (i := 7) rfl))) (List.mem_cons_of_mem _ (List.mem_append_left _ (List.mem_of_getElem? (i := 8) rfl))) (List.mem_cons_of_mem _ (List.mem_append_left _ (List.mem_of_getElem? (i := 9) rfl))) (List.mem_cons_of_mem _ (List.mem_append_left _ (List.mem_of_getElem? (i := 10) rfl))) (gi_sub (fun w h => (List.mem_cons_of_mem _ (List.mem_append_right _ (List.mem_append_right _ (List.mem_append_right _ (List.mem_append_right _ (List.mem_append_left _ h))))))) zg_k172_X6_append)) rfl rfl rfl (by decide +kernel) ⟨Nat.le_of_ble_eq_true rfl, Nat.le_of_ble_eq_true rfl⟩ 13 rfl rfl rfl rfl (Nat.le_of_ble_eq_true rfl) ⟨Nat.le_of_ble_eq_true rfl, Nat.le_of_ble_eq_true rfl⟩ dX6_takeFrom_26 (fun v ty' w' hp hk' => ?_)
        obtain ⟨I10227, A10227, hI10227, hA10227, hV10227, y10224, c10225, c10226, rfl, rfl⟩ := hp
        show GW κ 3 0 0 (wX q d I10227 A10227) 29 [(2, .int x10181), (0, .ref (q 13)), (1, .ref (q 33))] [.int y10224]
        refine g_pop hk dX6_takeFrom_29 rfl ?_
        obtain ⟨y10228, ey10228⟩ : ∃ y : Int32, y = x10181 + Int32.ofInt 1 := ⟨_, rfl⟩
        have hy10228 : y10228.toInt = x10181.toInt + 1 := i32_add ey10228 rfl (by decide) (by omega) (by omega)
        refine g_iinc (v := y10228) (lv' := [(2, .int y10228), (0, .ref (q 13)), (1, .ref (q 33))]) hk 0 dX6_takeFrom_30 rfl ey10228.symm (by decide) rfl ?_
        refine g_goto (tgt := 12) hk dX6_takeFrom_33 (by decide) ?_
        exact g_lv (List.forall_mem_cons.mpr ⟨List.mem_of_getElem? (i := 0) rfl, (List.forall_mem_cons.mpr ⟨List.mem_of_getElem? (i := 1) rfl, (List.forall_mem_cons.mpr ⟨List.mem_of_getElem? (i := 2) rfl, (fun _ h => absurd h List.not_mem_nil)⟩)⟩)⟩) (ih y10228 I10227 A10227 (show Md [17, 18] (upd (upd I 17 0) 18 0) I10227 from Md.tr hI10184 (show Md [17, 18] I10184 I10227 from (Md.tr Md.rf hI10227 rfl)) rfl) (show Md [7] A A10227 from Md.tr hA10184 (show Md [7] A10184 A10227 from (Md.tr Md.rf hA10227 rfl)) rfl) hV10227 (by omega) (by omega) (by omega))
  have k10230 : (0 : Int32).toInt = 0 := rfl
  obtain ⟨n10229, n10229a, n10229b⟩ : ∃ n : Nat, (I 26).toInt + 1 - 0 < (n : Int) ∧ 0 < n := ⟨(((I 26).toInt + 1 - 0 : Int)).toNat + 1, by omega, by omega⟩
  exact lp10217 n10229 0 (upd (upd I 17 0) 18 0) A Md.rf Md.rf ⟨(IvX_f0 (I := I) (A := A) hIv), ⟨by decide, by decide⟩, (IvX_f30 (I := I) (A := A) hIv), (IvX_f31 (I := I) (A := A) hIv), (IvX_a4 (I := I) (A := A) hIv), (IvX_a9 (I := I) (A := A) hIv), trivial⟩ (by omega) n10229a n10229b
def wo_k336_X7_valueOf : List Cond := [Cond.fieldLink RX7 20 "WarpDesk$Settings" "values" "[I"]
def wz_k336_X7_valueOf : List Cond := .code yX7_valueOf cX7_valueOf 2 (some .int) :: (wo_k336_X7_valueOf ++ (wsX70 ++ ([] : List Cond)))
theorem zg_k336_X7_valueOf : ∀ w ∈ wz_k336_X7_valueOf, goodWord w = true := zg_cons rfl (zg_app (by decide +kernel) (zg_app zgU_wsX70 zg_nil))
theorem zi_k336_X7_valueOf : ∀ w ∈ wz_k336_X7_valueOf, w ∈ lw_tbl := zi_cons zw_788 (zi_app (zi_cons zw_190 zi_nil) (zi_app inX7 zi_nil))
set_option maxHeartbeats 4000000 in
set_option maxRecDepth 100000 in
theorem k336_X7_valueOf (l : Launch) (D : va_G) (zt : Nat × Nat × Nat × (Nat → Nat) × (Nat → Nat)) (q : Nat → Nat) (d : Nat → ClassId) (I : Nat → Int32) (A : Nat → Nat → Int32) (z1 : Int32) (hIv : IvX I A) : GM l D zt (tyX d) yX7_valueOf wz_k336_X7_valueOf ({ frames := 0, cells := 0, slots := 0, locals := 0 } : Room) [.ref (q 35), .int z1] (wX q d I A) (fun v _ w' => ∃ y0 : Int32, v = some (.int y0) ∧ w' = wX q d I A) 0 0 := by
  refine GM.of (cc := cX7_valueOf) (maxL := 2) (ret := (some .int)) (own := RX7) (lv := [(0, .ref (q 35)), (1, .int z1)]) (by decide) rfl rfl (Nat.le_of_ble_eq_true rfl) rfl (fun κ sz hk hR hN => ?_)
  have hin7 : ∀ w ∈ u_ws RX7 TX7 1, w ∈ wz_k336_X7_valueOf := fun w h => (List.mem_cons_of_mem _ (List.mem_append_right _ (List.mem_append_left _ h)))
  refine g_iload_n hk dX7_valueOf_0 rfl ?_
  have b10237l := Int32.le_toInt z1
  have b10237h := Int32.toInt_lt z1
  refine g_if_lt (tgt := 22) (a := z1.toInt) hk dX7_valueOf_1 (by decide) rfl (fun c10238 => ?_) (fun c10238 => ?_)
  · skip
    refine g_iconst (v := (-1)) hk dX7_valueOf_22 (by decide) ?_
    exact g_iret hk hR rfl ⟨(-1), rfl, rfl⟩ dX7_valueOf_23
  · skip
    refine g_iload_n hk dX7_valueOf_4 rfl ?_
    refine g_aload_n hk dX7_valueOf_5 rfl ?_
    refine gX_r35_0 hk hin7 (List.mem_cons_of_mem _ (List.mem_append_left _ (List.mem_of_getElem? (i := 0) rfl))) dX7_valueOf_6 ?_
    refine nX_20 hk dX7_valueOf_9 ?_
    refine g_icmp_ge (tgt := 22) (a := z1.toInt) (b := 4) hk dX7_valueOf_10 (by decide) rfl rfl (fun c10239 => ?_) (fun c10239 => ?_)
    · skip
      refine g_iconst (v := (-1)) hk dX7_valueOf_22 (by decide) ?_
      exact g_iret hk hR rfl ⟨(-1), rfl, rfl⟩ dX7_valueOf_23
    · skip
      refine g_aload_n hk dX7_valueOf_13 rfl ?_
      refine gX_r35_0 hk hin7 (List.mem_cons_of_mem _ (List.mem_append_left _ (List.mem_of_getElem? (i := 0) rfl))) dX7_valueOf_14 ?_
      refine g_iload_n hk dX7_valueOf_17 rfl ?_
      refine lX_20 (v := (A 20 z1.toNatClampNeg)) hk (vp_in_iff.mpr ⟨by omega, by omega⟩) rfl dX7_valueOf_18 ?_
      refine g_goto (tgt := 23) hk dX7_valueOf_19 (by decide) ?_
      have b10240l := Int32.le_toInt (A 20 z1.toNatClampNeg)
      have b10240h := Int32.toInt_lt (A 20 z1.toNatClampNeg)
      exact g_iret hk hR rfl ⟨(A 20 z1.toNatClampNeg), rfl, rfl⟩ dX7_valueOf_23
def wo_k335_X7_takeFrom : List Cond := [Cond.fieldLink RX7 20 "WarpDesk$Settings" "values" "[I", Cond.methodLink RX7 33 yX7_valueOf, Cond.instanceMethod yX7_valueOf, Cond.selects RX7 yX7_valueOf yX7_valueOf, Cond.initialized RX7]
def wz_k335_X7_takeFrom : List Cond := .code yX7_takeFrom cX7_takeFrom 3 none :: (wo_k335_X7_takeFrom ++ (wsX70 ++ (wz_k336_X7_valueOf ++ ([] : List Cond))))
theorem zg_k335_X7_takeFrom : ∀ w ∈ wz_k335_X7_takeFrom, goodWord w = true := zg_cons rfl (zg_app (by decide +kernel) (zg_app zgU_wsX70 (zg_app zg_k336_X7_valueOf zg_nil)))
theorem zi_k335_X7_takeFrom : ∀ w ∈ wz_k335_X7_takeFrom, w ∈ lw_tbl := zi_cons zw_784 (zi_app (zi_cons zw_190 (zi_cons zw_785 (zi_cons zw_786 (zi_cons zw_787 (zi_cons zw_107 zi_nil))))) (zi_app inX7 (zi_app zi_k336_X7_valueOf zi_nil)))
set_option maxHeartbeats 4000000 in
set_option maxRecDepth 100000 in
theorem k335_X7_takeFrom (l : Launch) (D : va_G) (zt : Nat × Nat × Nat × (Nat → Nat) × (Nat → Nat)) (q : Nat → Nat) (d : Nat → ClassId) (I : Nat → Int32) (A : Nat → Nat → Int32) (hIv : IvX I A) : GM l D zt (tyX d) yX7_takeFrom wz_k335_X7_takeFrom ({ frames := 1, cells := 0, slots := 0, locals := 21 } : Room) [.ref (q 18), .ref (q 35)] (wX q d I A) (fun v _ w' => ∃ (I' : Nat → Int32) (A' : Nat → Nat → Int32), Md [] I I' ∧ Md [10] A A' ∧ IvX I' A' ∧ v = none ∧ w' = wX q d I' A') 0 0 := by
  refine GM.of (cc := cX7_takeFrom) (maxL := 3) (ret := none) (own := RX7) (lv := [(0, .ref (q 18)), (1, .ref (q 35))]) (by decide) rfl rfl (Nat.le_of_ble_eq_true rfl) rfl (fun κ sz hk hR hN => ?_)
  have hin7 : ∀ w ∈ u_ws RX7 TX7 1, w ∈ wz_k335_X7_takeFrom := fun w h => (List.mem_cons_of_mem _ (List.mem_append_right _ (List.mem_append_left _ h)))
  refine g_iconst (v := 0) hk dX7_takeFrom_0 (by decide) ?_
  refine g_istore_n (lv' := [(2, .int 0), (0, .ref (q 18)), (1, .ref (q 35))]) hk dX7_takeFrom_1 (by decide) rfl ?_
  have lp10254 : ∀ (n10255 : Nat) (x10233 : Int32) (I10236 : Nat → Int32) (A10236 : Nat → Nat → Int32), (Md [] I I10236) → (Md [10] A A10236) → (IvX I10236 A10236) → (0 ≤ x10233.toInt) → (x10233.toInt ≤ 4) → (5 - x10233.toInt < (n10255 : Int)) → (0 < n10255) → GW κ 3 0 0 (wX q d I10236 A10236) 2 [(2, .int x10233), (0, .ref (q 18)), (1, .ref (q 35))] [] := by
    intro n10255
    induction n10255 with
    | zero =>
      intro x10233 I10236 A10236 hI10236 hA10236 hV10236 h10252 h10253 m10256 m10256z
      exact absurd m10256z (Nat.lt_irrefl 0)
    | succ n10255 ih =>
      intro x10233 I10236 A10236 hI10236 hA10236 hV10236 h10252 h10253 m10256 m10256z
      refine g_iload_n hk dX7_takeFrom_2 rfl ?_
      refine g_aload_n hk dX7_takeFrom_3 rfl ?_
      refine gX_r18_0 hk hin7 (List.mem_cons_of_mem _ (List.mem_append_left _ (List.mem_of_getElem? (i := 0) rfl))) dX7_takeFrom_4 ?_
      refine nX_10 hk dX7_takeFrom_7 ?_
      refine g_icmp_ge (tgt := 28) (a := x10233.toInt) (b := 4) hk dX7_takeFrom_8 (by decide) rfl rfl (fun c10257 => ?_) (fun c10257 => ?_)
      · skip
        exact g_vret hk hR ⟨I10236, A10236, (show Md [] I I10236 from (Md.tr Md.rf hI10236 rfl)), (show Md [10] A A10236 from (Md.tr Md.rf hA10236 rfl)), hV10236, rfl, rfl⟩ dX7_takeFrom_28
      · skip
        refine g_aload_n hk dX7_takeFrom_11 rfl ?_
        refine gX_r18_0 hk hin7 (List.mem_cons_of_mem _ (List.mem_append_left _ (List.mem_of_getElem? (i := 0) rfl))) dX7_takeFrom_12 ?_
        refine g_iload_n hk dX7_takeFrom_15 rfl ?_
        refine g_aload_n hk dX7_takeFrom_16 rfl ?_
        refine g_iload_n hk dX7_takeFrom_17 rfl ?_
        refine g_callV (n := 1) hk (k336_X7_valueOf l D zt q d I10236 A10236 x10233 hV10236) (SP.same _) (fun _ h => h) (gi_V (List.mem_cons_of_mem _ (List.mem_append_left _ (List.mem_of_getElem? (i := 1) rfl))) (List.mem_cons_of_mem _ (List.mem_append_left _ (List.mem_of_getElem? (i := 2) rfl))) (List.mem_cons_of_mem _ (List.mem_append_left _ (List.mem_of_getElem? (i := 3) rfl))) (List.mem_cons_of_mem _ (List.mem_append_left _ (List.mem_of_getElem? (i := 4) rfl))) (gi_sub (fun w h => (List.mem_cons_of_mem _ (List.mem_append_right _ (List.mem_append_right _ (List.mem_append_left _ h))))) zg_k336_X7_valueOf)) rfl rfl rfl (by decide +kernel) ⟨Nat.le_of_ble_eq_true rfl, Nat.le_of_ble_eq_true rfl⟩ 35 rfl rfl rfl rfl (Nat.le_of_ble_eq_true rfl) ⟨Nat.le_of_ble_eq_true rfl, Nat.le_of_ble_eq_true rfl⟩ dX7_takeFrom_18 (fun v ty' w' hp hk' => ?_)
        obtain ⟨y10258, rfl, rfl⟩ := hp
        show GW κ 3 0 0 (wX q d I10236 A10236) 21 [(2, .int x10233), (0, .ref (q 18)), (1, .ref (q 35))] [.int y10258, .int x10233, .ref (q 19)]
        refine sX_10 (j := x10233.toNatClampNeg) hk (vp_in_iff.mpr ⟨by omega, by omega⟩) rfl dX7_takeFrom_21 ?_
        obtain ⟨y10259, ey10259⟩ : ∃ y : Int32, y = x10233 + Int32.ofInt 1 := ⟨_, rfl⟩
        have hy10259 : y10259.toInt = x10233.toInt + 1 := i32_add ey10259 rfl (by decide) (by omega) (by omega)
        refine g_iinc (v := y10259) (lv' := [(2, .int y10259), (0, .ref (q 18)), (1, .ref (q 35))]) hk 0 dX7_takeFrom_22 rfl ey10259.symm (by decide) rfl ?_
        refine g_goto (tgt := 2) hk dX7_takeFrom_25 (by decide) ?_
        exact g_lv (List.forall_mem_cons.mpr ⟨List.mem_of_getElem? (i := 0) rfl, (List.forall_mem_cons.mpr ⟨List.mem_of_getElem? (i := 1) rfl, (List.forall_mem_cons.mpr ⟨List.mem_of_getElem? (i := 2) rfl, (fun _ h => absurd h List.not_mem_nil)⟩)⟩)⟩) (ih y10259 I10236 (up3 A10236 10 (x10233.toNatClampNeg) y10258) (show Md [] I I10236 from Md.tr hI10236 (show Md [] I10236 I10236 from Md.rf) rfl) (show Md [10] A (up3 A10236 10 (x10233.toNatClampNeg) y10258) from Md.tr hA10236 (show Md [10] A10236 (up3 A10236 10 (x10233.toNatClampNeg) y10258) from (Md.up3 Md.rf rfl)) rfl) ⟨(IvX_f0 (I := I10236) (A := A10236) hV10236), (IvX_f18 (I := I10236) (A := A10236) hV10236), (IvX_f30 (I := I10236) (A := A10236) hV10236), (IvX_f31 (I := I10236) (A := A10236) hV10236), (IvX_a4 (I := I10236) (A := A10236) hV10236), (IvX_a9 (I := I10236) (A := A10236) hV10236), trivial⟩ (by omega) (by omega) (by omega) (by omega))
  have k10261 : (0 : Int32).toInt = 0 := rfl
  obtain ⟨n10260, n10260a, n10260b⟩ : ∃ n : Nat, 5 - 0 < (n : Int) ∧ 0 < n := ⟨((5 - 0 : Int)).toNat + 1, by omega, by omega⟩
  exact lp10254 n10260 0 I A Md.rf Md.rf hIv (by omega) (by omega) n10260a n10260b
def wo_k332_X11_goOnFrom : List Cond := [Cond.fieldLink RX11 28 "WarpDesk" "series" "LWarpDesk$Series;", Cond.methodLink RX11 369 yX6_takeFrom, Cond.instanceMethod yX6_takeFrom, Cond.selects RX6 yX6_takeFrom yX6_takeFrom, Cond.initialized RX6, Cond.fieldLink RX11 42 "WarpDesk" "settings" "LWarpDesk$Settings;", Cond.fieldLink RX11 365 "WarpDesk$Stand" "settings" "LWarpDesk$Settings;", Cond.methodLink RX11 366 yX7_takeFrom, Cond.instanceMethod yX7_takeFrom, Cond.selects RX7 yX7_takeFrom yX7_takeFrom, Cond.initialized RX7, Cond.fieldLink RX11 49 "WarpDesk" "past" "LWarpDesk$Past;", Cond.methodLink RX11 371 yX3_forget, Cond.instanceMethod yX3_forget, Cond.selects RX3 yX3_forget yX3_forget, Cond.initialized RX3]
def wz_k332_X11_goOnFrom : List Cond := .code yX11_goOnFrom cX11_goOnFrom 2 none :: (wo_k332_X11_goOnFrom ++ (wsX80 ++ (wsX110 ++ (wz_k333_X6_takeFrom ++ (wz_k335_X7_takeFrom ++ (wz_k175_X3_forget ++ ([] : List Cond)))))))
theorem zg_k332_X11_goOnFrom : ∀ w ∈ wz_k332_X11_goOnFrom, goodWord w = true := zg_cons rfl (zg_app (by decide +kernel) (zg_app zgU_wsX80 (zg_app zgU_wsX110 (zg_app zg_k333_X6_takeFrom (zg_app zg_k335_X7_takeFrom (zg_app zg_k175_X3_forget zg_nil))))))
theorem zi_k332_X11_goOnFrom : ∀ w ∈ wz_k332_X11_goOnFrom, w ∈ lw_tbl := zi_cons zw_768 (zi_app (zi_cons zw_489 (zi_cons zw_769 (zi_cons zw_770 (zi_cons zw_771 (zi_cons zw_109 (zi_cons zw_491 (zi_cons zw_200 (zi_cons zw_781 (zi_cons zw_782 (zi_cons zw_783 (zi_cons zw_107 (zi_cons zw_492 (zi_cons zw_789 (zi_cons zw_790 (zi_cons zw_791 (zi_cons zw_110 zi_nil)))))))))))))))) (zi_app inX8 (zi_app inX11 (zi_app zi_k333_X6_takeFrom (zi_app zi_k335_X7_takeFrom (zi_app zi_k175_X3_forget zi_nil))))))
set_option maxHeartbeats 4000000 in
set_option maxRecDepth 100000 in
theorem k332_X11_goOnFrom (l : Launch) (D : va_G) (zt : Nat × Nat × Nat × (Nat → Nat) × (Nat → Nat)) (q : Nat → Nat) (d : Nat → ClassId) (I : Nat → Int32) (A : Nat → Nat → Int32) (hIv : IvX I A) : GM l D zt (tyX d) yX11_goOnFrom wz_k332_X11_goOnFrom ({ frames := 2, cells := 0, slots := 0, locals := 43 } : Room) [.ref (q 0), .ref (q 33)] (wX q d I A) (fun v _ w' => ∃ (I' : Nat → Int32) (A' : Nat → Nat → Int32), Md [17, 18, 21] I I' ∧ Md [7, 10] A A' ∧ IvX I' A' ∧ v = none ∧ w' = wX q d I' A') 0 0 := by
  refine GM.of (cc := cX11_goOnFrom) (maxL := 2) (ret := none) (own := RX11) (lv := [(0, .ref (q 0)), (1, .ref (q 33))]) (by decide) rfl rfl (Nat.le_of_ble_eq_true rfl) rfl (fun κ sz hk hR hN => ?_)
  have hin8 : ∀ w ∈ u_ws RX8 TX8 4, w ∈ wz_k332_X11_goOnFrom := fun w h => (List.mem_cons_of_mem _ (List.mem_append_right _ (List.mem_append_left _ h)))
  have hin11 : ∀ w ∈ u_ws RX11 TX11 10, w ∈ wz_k332_X11_goOnFrom := fun w h => (List.mem_cons_of_mem _ (List.mem_append_right _ (List.mem_append_right _ (List.mem_append_left _ h))))
  refine g_aload_n hk dX11_goOnFrom_0 rfl ?_
  refine gX_r0_2 hk hin11 (List.mem_cons_of_mem _ (List.mem_append_left _ (List.mem_of_getElem? (i := 0) rfl))) dX11_goOnFrom_1 ?_
  refine g_aload_n hk dX11_goOnFrom_4 rfl ?_
  refine g_callV (n := 1) hk (k333_X6_takeFrom l D zt q d I A  hIv) (SP.same _) (fun _ h => h) (gi_V (List.mem_cons_of_mem _ (List.mem_append_left _ (List.mem_of_getElem? (i := 1) rfl))) (List.mem_cons_of_mem _ (List.mem_append_left _ (List.mem_of_getElem? (i := 2) rfl))) (List.mem_cons_of_mem _ (List.mem_append_left _ (List.mem_of_getElem? (i := 3) rfl))) (List.mem_cons_of_mem _ (List.mem_append_left _ (List.mem_of_getElem? (i := 4) rfl))) (gi_sub (fun w h => (List.mem_cons_of_mem _ (List.mem_append_right _ (List.mem_append_right _ (List.mem_append_right _ (List.mem_append_left _ h)))))) zg_k333_X6_takeFrom)) rfl rfl rfl (by decide +kernel) ⟨Nat.le_of_ble_eq_true rfl, Nat.le_of_ble_eq_true rfl⟩ 13 rfl rfl rfl rfl (Nat.le_of_ble_eq_true rfl) ⟨Nat.le_of_ble_eq_true rfl, Nat.le_of_ble_eq_true rfl⟩ dX11_goOnFrom_5 (fun v ty' w' hp hk' => ?_)
  obtain ⟨I10232, A10232, hI10232, hA10232, hV10232, rfl, rfl⟩ := hp
  show GW κ 2 0 0 (wX q d I10232 A10232) 8 [(0, .ref (q 0)), (1, .ref (q 33))] []
  refine g_aload_n hk dX11_goOnFrom_8 rfl ?_
  refine gX_r0_4 hk hin11 (List.mem_cons_of_mem _ (List.mem_append_left _ (List.mem_of_getElem? (i := 5) rfl))) dX11_goOnFrom_9 ?_
  refine g_aload_n hk dX11_goOnFrom_12 rfl ?_
  refine gX_r33_2 hk hin8 (List.mem_cons_of_mem _ (List.mem_append_left _ (List.mem_of_getElem? (i := 6) rfl))) dX11_goOnFrom_13 ?_
  refine g_callV (n := 1) hk (k335_X7_takeFrom l D zt q d I10232 A10232  hV10232) (SP.same _) (fun _ h => h) (gi_V (List.mem_cons_of_mem _ (List.mem_append_left _ (List.mem_of_getElem? (i := 7) rfl))) (List.mem_cons_of_mem _ (List.mem_append_left _ (List.mem_of_getElem? (i := 8) rfl))) (List.mem_cons_of_mem _ (List.mem_append_left _ (List.mem_of_getElem? (i := 9) rfl))) (List.mem_cons_of_mem _ (List.mem_append_left _ (List.mem_of_getElem? (i := 10) rfl))) (gi_sub (fun w h => (List.mem_cons_of_mem _ (List.mem_append_right _ (List.mem_append_right _ (List.mem_append_right _ (List.mem_append_right _ (List.mem_append_left _ h))))))) zg_k335_X7_takeFrom)) rfl rfl rfl (by decide +kernel) ⟨Nat.le_of_ble_eq_true rfl, Nat.le_of_ble_eq_true rfl⟩ 18 rfl rfl rfl rfl (Nat.le_of_ble_eq_true rfl) ⟨Nat.le_of_ble_eq_true rfl, Nat.le_of_ble_eq_true rfl⟩ dX11_goOnFrom_16 (fun v ty' w' hp hk' => ?_)
  obtain ⟨I10263, A10263, hI10263, hA10263, hV10263, rfl, rfl⟩ := hp
  show GW κ 2 0 0 (wX q d I10263 A10263) 19 [(0, .ref (q 0)), (1, .ref (q 33))] []
  refine g_aload_n hk dX11_goOnFrom_19 rfl ?_
  refine gX_r0_5 hk hin11 (List.mem_cons_of_mem _ (List.mem_append_left _ (List.mem_of_getElem? (i := 11) rfl))) dX11_goOnFrom_20 ?_
  refine g_callV (n := 0) hk (k175_X3_forget l D zt q d I10263 A10263  hV10263) (SP.same _) (fun _ h => h) (gi_V (List.mem_cons_of_mem _ (List.mem_append_left _ (List.mem_of_getElem? (i := 12) rfl))) (List.mem_cons_of_mem _ (List.mem_append_left _ (List.mem_of_getElem? (i := 13) rfl))) (List.mem_cons_of_mem _ (List.mem_append_left _ (List.mem_of_getElem? (i := 14) rfl))) (List.mem_cons_of_mem _ (List.mem_append_left _ (List.mem_of_getElem? (i := 15) rfl))) (gi_sub (fun w h => (List.mem_cons_of_mem _ (List.mem_append_right _ (List.mem_append_right _ (List.mem_append_right _ (List.mem_append_right _ (List.mem_append_right _ (List.mem_append_left _ h)))))))) zg_k175_X3_forget)) rfl rfl rfl (by decide +kernel) ⟨Nat.le_of_ble_eq_true rfl, Nat.le_of_ble_eq_true rfl⟩ 20 rfl rfl rfl rfl (Nat.le_of_ble_eq_true rfl) ⟨Nat.le_of_ble_eq_true rfl, Nat.le_of_ble_eq_true rfl⟩ dX11_goOnFrom_23 (fun v ty' w' hp hk' => ?_)
  obtain ⟨I10265, A10265, hI10265, hA10265, hV10265, rfl, rfl⟩ := hp
  show GW κ 2 0 0 (wX q d I10265 A10265) 26 [(0, .ref (q 0)), (1, .ref (q 33))] []
  exact g_vret hk hR ⟨I10265, A10265, (show Md [17, 18, 21] I I10265 from (Md.tr (Md.tr (Md.tr Md.rf hI10232 rfl) hI10263 rfl) hI10265 rfl)), (show Md [7, 10] A A10265 from (Md.tr (Md.tr (Md.tr Md.rf hA10232 rfl) hA10263 rfl) hA10265 rfl)), hV10265, rfl, rfl⟩ dX11_goOnFrom_26
def wo_k321_X11_restore : List Cond := [Cond.fieldLink RX11 56 "WarpDesk" "slots" "[LWarpDesk$Stand;", Cond.fieldLink RX11 110 "WarpDesk$Stand" "held" "Z", Cond.methodLink RX11 106 yX11_goOnFrom, Cond.instanceMethod yX11_goOnFrom, Cond.selects RX11 yX11_goOnFrom yX11_goOnFrom, Cond.initialized RX11]
def wz_k321_X11_restore : List Cond := .code yX11_restore cX11_restore 2 (some .boolean) :: (wo_k321_X11_restore ++ (wsX80 ++ (wsX110 ++ (wz_k322_X11_goOnFrom ++ (wz_k327_X11_goOnFrom ++ (wz_k332_X11_goOnFrom ++ ([] : List Cond)))))))
theorem zg_k321_X11_restore : ∀ w ∈ wz_k321_X11_restore, goodWord w = true := zg_cons rfl (zg_app (by decide +kernel) (zg_app zgU_wsX80 (zg_app zgU_wsX110 (zg_app zg_k322_X11_goOnFrom (zg_app zg_k327_X11_goOnFrom (zg_app zg_k332_X11_goOnFrom zg_nil))))))
theorem zi_k321_X11_restore : ∀ w ∈ wz_k321_X11_restore, w ∈ lw_tbl := zi_cons zw_1338 (zi_app (zi_cons zw_493 (zi_cons zw_201 (zi_cons zw_765 (zi_cons zw_767 (zi_cons zw_22 (zi_cons zw_103 zi_nil)))))) (zi_app inX8 (zi_app inX11 (zi_app zi_k322_X11_goOnFrom (zi_app zi_k327_X11_goOnFrom (zi_app zi_k332_X11_goOnFrom zi_nil))))))
set_option maxHeartbeats 4000000 in
set_option maxRecDepth 100000 in
theorem k321_X11_restore (l : Launch) (D : va_G) (zt : Nat × Nat × Nat × (Nat → Nat) × (Nat → Nat)) (q : Nat → Nat) (d : Nat → ClassId) (I : Nat → Int32) (A : Nat → Nat → Int32) (z1 : Int32) (hIv : IvX I A) : GM l D zt (tyX d) yX11_restore wz_k321_X11_restore ({ frames := 3, cells := 0, slots := 0, locals := 64 } : Room) [.ref (q 0), .int z1] (wX q d I A) (fun v _ w' => ∃ (I' : Nat → Int32) (A' : Nat → Nat → Int32), Md [17, 18, 21] I I' ∧ Md [7, 10] A A' ∧ IvX I' A' ∧ ∃ y0 : Int32, (0 ≤ y0.toInt) ∧ (y0.toInt ≤ 1) ∧ v = some (.int y0) ∧ w' = wX q d I' A') 0 0 := by
  refine GM.of (cc := cX11_restore) (maxL := 2) (ret := (some .boolean)) (own := RX11) (lv := [(0, .ref (q 0)), (1, .int z1)]) (by decide) rfl rfl (Nat.le_of_ble_eq_true rfl) rfl (fun κ sz hk hR hN => ?_)
  have hin8 : ∀ w ∈ u_ws RX8 TX8 4, w ∈ wz_k321_X11_restore := fun w h => (List.mem_cons_of_mem _ (List.mem_append_right _ (List.mem_append_left _ h)))
  have hin11 : ∀ w ∈ u_ws RX11 TX11 10, w ∈ wz_k321_X11_restore := fun w h => (List.mem_cons_of_mem _ (List.mem_append_right _ (List.mem_append_right _ (List.mem_append_left _ h))))
  refine g_iload_n hk dX11_restore_0 rfl ?_
  have b9995l := Int32.le_toInt z1
  have b9995h := Int32.toInt_lt z1
  refine g_if_lt (tgt := 25) (a := z1.toInt) hk dX11_restore_1 (by decide) rfl (fun c9996 => ?_) (fun c9996 => ?_)
  · skip
    refine g_iconst (v := 0) hk dX11_restore_25 (by decide) ?_
    exact g_iret hk hR rfl ⟨I, A, (show Md [17, 18, 21] I I from Md.rf), (show Md [7, 10] A A from Md.rf), hIv, 0, (by decide), (by decide), rfl, rfl⟩ dX11_restore_26
  · skip
    refine g_iload_n hk dX11_restore_4 rfl ?_
    refine g_aload_n hk dX11_restore_5 rfl ?_
    refine gX_r0_6 hk hin11 (List.mem_cons_of_mem _ (List.mem_append_left _ (List.mem_of_getElem? (i := 0) rfl))) dX11_restore_6 ?_
    refine nX_14 hk dX11_restore_9 ?_
    refine g_icmp_ge (tgt := 25) (a := z1.toInt) (b := 3) hk dX11_restore_10 (by decide) rfl rfl (fun c9997 => ?_) (fun c9997 => ?_)
    · skip
      refine g_iconst (v := 0) hk dX11_restore_25 (by decide) ?_
      exact g_iret hk hR rfl ⟨I, A, (show Md [17, 18, 21] I I from Md.rf), (show Md [7, 10] A A from Md.rf), hIv, 0, (by decide), (by decide), rfl, rfl⟩ dX11_restore_26
    · skip
      refine g_aload_n hk dX11_restore_13 rfl ?_
      refine gX_r0_6 hk hin11 (List.mem_cons_of_mem _ (List.mem_append_left _ (List.mem_of_getElem? (i := 0) rfl))) dX11_restore_14 ?_
      refine g_iload_n hk dX11_restore_17 rfl ?_
      by_cases c9998 : z1.toInt = 0
      · have ec9998 : z1 = 0 := Int32.toInt_inj.mp c9998
        rw [ec9998]
        show GW κ 2 0 0 (wX q d I A) 18 [(0, .ref (q 0)), (1, .int 0)] [.int 0, .ref (q 24)]
        refine lX_14 hk (vp_in_iff.mpr ⟨by decide, by decide⟩) rfl dX11_restore_18 ?_
        refine gX_i23 (v := (I 23)) hk hin8 (List.mem_cons_of_mem _ (List.mem_append_left _ (List.mem_of_getElem? (i := 1) rfl))) dX11_restore_19 rfl ?_
        have b9999l := Int32.le_toInt (I 23)
        have b9999h := Int32.toInt_lt (I 23)
        refine g_if_ne (tgt := 27) (a := (I 23).toInt) hk dX11_restore_22 (by decide) rfl (fun c10000 => ?_) (fun c10000 => ?_)
        · skip
          refine g_aload_n hk dX11_restore_27 rfl ?_
          refine g_aload_n hk dX11_restore_28 rfl ?_
          refine gX_r0_6 hk hin11 (List.mem_cons_of_mem _ (List.mem_append_left _ (List.mem_of_getElem? (i := 0) rfl))) dX11_restore_29 ?_
          refine g_iload_n hk dX11_restore_32 rfl ?_
          refine lX_14 hk (vp_in_iff.mpr ⟨by decide, by decide⟩) rfl dX11_restore_33 ?_
          refine g_callV (n := 1) hk (k322_X11_goOnFrom l D zt q d I A  hIv) (SP.same _) (fun _ h => h) (gi_V (List.mem_cons_of_mem _ (List.mem_append_left _ (List.mem_of_getElem? (i := 2) rfl))) (List.mem_cons_of_mem _ (List.mem_append_left _ (List.mem_of_getElem? (i := 3) rfl))) (List.mem_cons_of_mem _ (List.mem_append_left _ (List.mem_of_getElem? (i := 4) rfl))) (List.mem_cons_of_mem _ (List.mem_append_left _ (List.mem_of_getElem? (i := 5) rfl))) (gi_sub (fun w h => (List.mem_cons_of_mem _ (List.mem_append_right _ (List.mem_append_right _ (List.mem_append_right _ (List.mem_append_left _ h)))))) zg_k322_X11_goOnFrom)) rfl rfl rfl (by decide +kernel) ⟨Nat.le_of_ble_eq_true rfl, Nat.le_of_ble_eq_true rfl⟩ 0 rfl rfl rfl rfl (Nat.le_of_ble_eq_true rfl) ⟨Nat.le_of_ble_eq_true rfl, Nat.le_of_ble_eq_true rfl⟩ dX11_restore_34 (fun v ty' w' hp hk' => ?_)
          obtain ⟨I10087, A10087, hI10087, hA10087, hV10087, rfl, rfl⟩ := hp
          show GW κ 2 0 0 (wX q d I10087 A10087) 37 [(0, .ref (q 0)), (1, .int 0)] []
          refine g_iconst (v := 1) hk dX11_restore_37 (by decide) ?_
          exact g_iret hk hR rfl ⟨I10087, A10087, (show Md [17, 18, 21] I I10087 from (Md.tr Md.rf hI10087 rfl)), (show Md [7, 10] A A10087 from (Md.tr Md.rf hA10087 rfl)), hV10087, 1, (by decide), (by decide), rfl, rfl⟩ dX11_restore_38
        · skip
          refine g_iconst (v := 0) hk dX11_restore_25 (by decide) ?_
          exact g_iret hk hR rfl ⟨I, A, (show Md [17, 18, 21] I I from Md.rf), (show Md [7, 10] A A from Md.rf), hIv, 0, (by decide), (by decide), rfl, rfl⟩ dX11_restore_26
      by_cases c10088 : z1.toInt = 1
      · have ec10088 : z1 = 1 := Int32.toInt_inj.mp c10088
        rw [ec10088]
        show GW κ 2 0 0 (wX q d I A) 18 [(0, .ref (q 0)), (1, .int 1)] [.int 1, .ref (q 24)]
        refine lX_14 hk (vp_in_iff.mpr ⟨by decide, by decide⟩) rfl dX11_restore_18 ?_
        refine gX_i25 (v := (I 25)) hk hin8 (List.mem_cons_of_mem _ (List.mem_append_left _ (List.mem_of_getElem? (i := 1) rfl))) dX11_restore_19 rfl ?_
        have b10089l := Int32.le_toInt (I 25)
        have b10089h := Int32.toInt_lt (I 25)
        refine g_if_ne (tgt := 27) (a := (I 25).toInt) hk dX11_restore_22 (by decide) rfl (fun c10090 => ?_) (fun c10090 => ?_)
        · skip
          refine g_aload_n hk dX11_restore_27 rfl ?_
          refine g_aload_n hk dX11_restore_28 rfl ?_
          refine gX_r0_6 hk hin11 (List.mem_cons_of_mem _ (List.mem_append_left _ (List.mem_of_getElem? (i := 0) rfl))) dX11_restore_29 ?_
          refine g_iload_n hk dX11_restore_32 rfl ?_
          refine lX_14 hk (vp_in_iff.mpr ⟨by decide, by decide⟩) rfl dX11_restore_33 ?_
          refine g_callV (n := 1) hk (k327_X11_goOnFrom l D zt q d I A  hIv) (SP.same _) (fun _ h => h) (gi_V (List.mem_cons_of_mem _ (List.mem_append_left _ (List.mem_of_getElem? (i := 2) rfl))) (List.mem_cons_of_mem _ (List.mem_append_left _ (List.mem_of_getElem? (i := 3) rfl))) (List.mem_cons_of_mem _ (List.mem_append_left _ (List.mem_of_getElem? (i := 4) rfl))) (List.mem_cons_of_mem _ (List.mem_append_left _ (List.mem_of_getElem? (i := 5) rfl))) (gi_sub (fun w h => (List.mem_cons_of_mem _ (List.mem_append_right _ (List.mem_append_right _ (List.mem_append_right _ (List.mem_append_right _ (List.mem_append_left _ h))))))) zg_k327_X11_goOnFrom)) rfl rfl rfl (by decide +kernel) ⟨Nat.le_of_ble_eq_true rfl, Nat.le_of_ble_eq_true rfl⟩ 0 rfl rfl rfl rfl (Nat.le_of_ble_eq_true rfl) ⟨Nat.le_of_ble_eq_true rfl, Nat.le_of_ble_eq_true rfl⟩ dX11_restore_34 (fun v ty' w' hp hk' => ?_)
          obtain ⟨I10177, A10177, hI10177, hA10177, hV10177, rfl, rfl⟩ := hp
          show GW κ 2 0 0 (wX q d I10177 A10177) 37 [(0, .ref (q 0)), (1, .int 1)] []
          refine g_iconst (v := 1) hk dX11_restore_37 (by decide) ?_
          exact g_iret hk hR rfl ⟨I10177, A10177, (show Md [17, 18, 21] I I10177 from (Md.tr Md.rf hI10177 rfl)), (show Md [7, 10] A A10177 from (Md.tr Md.rf hA10177 rfl)), hV10177, 1, (by decide), (by decide), rfl, rfl⟩ dX11_restore_38
        · skip
          refine g_iconst (v := 0) hk dX11_restore_25 (by decide) ?_
          exact g_iret hk hR rfl ⟨I, A, (show Md [17, 18, 21] I I from Md.rf), (show Md [7, 10] A A from Md.rf), hIv, 0, (by decide), (by decide), rfl, rfl⟩ dX11_restore_26
      by_cases c10178 : z1.toInt = 2
      · have ec10178 : z1 = 2 := Int32.toInt_inj.mp c10178
        rw [ec10178]
        show GW κ 2 0 0 (wX q d I A) 18 [(0, .ref (q 0)), (1, .int 2)] [.int 2, .ref (q 24)]
        refine lX_14 hk (vp_in_iff.mpr ⟨by decide, by decide⟩) rfl dX11_restore_18 ?_
        refine gX_i27 (v := (I 27)) hk hin8 (List.mem_cons_of_mem _ (List.mem_append_left _ (List.mem_of_getElem? (i := 1) rfl))) dX11_restore_19 rfl ?_
        have b10179l := Int32.le_toInt (I 27)
        have b10179h := Int32.toInt_lt (I 27)
        refine g_if_ne (tgt := 27) (a := (I 27).toInt) hk dX11_restore_22 (by decide) rfl (fun c10180 => ?_) (fun c10180 => ?_)
        · skip
          refine g_aload_n hk dX11_restore_27 rfl ?_
          refine g_aload_n hk dX11_restore_28 rfl ?_
          refine gX_r0_6 hk hin11 (List.mem_cons_of_mem _ (List.mem_append_left _ (List.mem_of_getElem? (i := 0) rfl))) dX11_restore_29 ?_
          refine g_iload_n hk dX11_restore_32 rfl ?_
          refine lX_14 hk (vp_in_iff.mpr ⟨by decide, by decide⟩) rfl dX11_restore_33 ?_
          refine g_callV (n := 1) hk (k332_X11_goOnFrom l D zt q d I A  hIv) (SP.same _) (fun _ h => h) (gi_V (List.mem_cons_of_mem _ (List.mem_append_left _ (List.mem_of_getElem? (i := 2) rfl))) (List.mem_cons_of_mem _ (List.mem_append_left _ (List.mem_of_getElem? (i := 3) rfl))) (List.mem_cons_of_mem _ (List.mem_append_left _ (List.mem_of_getElem? (i := 4) rfl))) (List.mem_cons_of_mem _ (List.mem_append_left _ (List.mem_of_getElem? (i := 5) rfl))) (gi_sub (fun w h => (List.mem_cons_of_mem _ (List.mem_append_right _ (List.mem_append_right _ (List.mem_append_right _ (List.mem_append_right _ (List.mem_append_right _ (List.mem_append_left _ h)))))))) zg_k332_X11_goOnFrom)) rfl rfl rfl (by decide +kernel) ⟨Nat.le_of_ble_eq_true rfl, Nat.le_of_ble_eq_true rfl⟩ 0 rfl rfl rfl rfl (Nat.le_of_ble_eq_true rfl) ⟨Nat.le_of_ble_eq_true rfl, Nat.le_of_ble_eq_true rfl⟩ dX11_restore_34 (fun v ty' w' hp hk' => ?_)
          obtain ⟨I10267, A10267, hI10267, hA10267, hV10267, rfl, rfl⟩ := hp
          show GW κ 2 0 0 (wX q d I10267 A10267) 37 [(0, .ref (q 0)), (1, .int 2)] []
          refine g_iconst (v := 1) hk dX11_restore_37 (by decide) ?_
          exact g_iret hk hR rfl ⟨I10267, A10267, (show Md [17, 18, 21] I I10267 from (Md.tr Md.rf hI10267 rfl)), (show Md [7, 10] A A10267 from (Md.tr Md.rf hA10267 rfl)), hV10267, 1, (by decide), (by decide), rfl, rfl⟩ dX11_restore_38
        · skip
          refine g_iconst (v := 0) hk dX11_restore_25 (by decide) ?_
          exact g_iret hk hR rfl ⟨I, A, (show Md [17, 18, 21] I I from Md.rf), (show Md [7, 10] A A from Md.rf), hIv, 0, (by decide), (by decide), rfl, rfl⟩ dX11_restore_26
      exfalso; omega
def wo_k338_X6_gapCount : List Cond := [Cond.fieldLink RX6 19 "WarpDesk$Series" "size" "I", Cond.methodLink RX6 37 yX6_hasReading, Cond.instanceMethod yX6_hasReading, Cond.selects RX6 yX6_hasReading yX6_hasReading, Cond.initialized RX6]
def wz_k338_X6_gapCount : List Cond := .code yX6_gapCount cX6_gapCount 3 (some .int) :: (wo_k338_X6_gapCount ++ (wsX60 ++ (wz_k188_X6_hasReading ++ ([] : List Cond))))
theorem zg_k338_X6_gapCount : ∀ w ∈ wz_k338_X6_gapCount, goodWord w = true := zg_cons rfl (zg_app (by decide +kernel) (zg_app zgU_wsX60 (zg_app zg_k188_X6_hasReading zg_nil)))
theorem zi_k338_X6_gapCount : ∀ w ∈ wz_k338_X6_gapCount, w ∈ lw_tbl := zi_cons zw_1346 (zi_app (zi_cons zw_282 (zi_cons zw_905 (zi_cons zw_840 (zi_cons zw_841 (zi_cons zw_109 zi_nil))))) (zi_app inX6 (zi_app zi_k188_X6_hasReading zi_nil)))
set_option maxHeartbeats 4000000 in
set_option maxRecDepth 100000 in
theorem k338_X6_gapCount (l : Launch) (D : va_G) (zt : Nat × Nat × Nat × (Nat → Nat) × (Nat → Nat)) (q : Nat → Nat) (d : Nat → ClassId) (I : Nat → Int32) (A : Nat → Nat → Int32) (hIv : IvX I A) : GM l D zt (tyX d) yX6_gapCount wz_k338_X6_gapCount ({ frames := 2, cells := 0, slots := 0, locals := 42 } : Room) [.ref (q 13)] (wX q d I A) (fun v _ w' => ∃ y0 : Int32, v = some (.int y0) ∧ w' = wX q d I A) 0 0 := by
  refine GM.of (cc := cX6_gapCount) (maxL := 3) (ret := (some .int)) (own := RX6) (lv := [(0, .ref (q 13))]) (by decide) rfl rfl (Nat.le_of_ble_eq_true rfl) rfl (fun κ sz hk hR hN => ?_)
  have hin6 : ∀ w ∈ u_ws RX6 TX6 3, w ∈ wz_k338_X6_gapCount := fun w h => (List.mem_cons_of_mem _ (List.mem_append_right _ (List.mem_append_left _ h)))
  refine g_iconst (v := 0) hk dX6_gapCount_0 (by decide) ?_
  refine g_istore_n (lv' := [(1, .int 0), (0, .ref (q 13))]) hk dX6_gapCount_1 (by decide) rfl ?_
  refine g_iconst (v := 0) hk dX6_gapCount_2 (by decide) ?_
  refine g_istore_n (lv' := [(2, .int 0), (1, .int 0), (0, .ref (q 13))]) hk dX6_gapCount_3 (by decide) rfl ?_
  have lp10315 : ∀ (n10316 : Nat) (x10271 : Int32) (x10272 : Int32), (0 ≤ x10271.toInt) → (x10271.toInt ≤ 160) → (161 - x10271.toInt < (n10316 : Int)) → (0 < n10316) → GW κ 3 0 0 (wX q d I A) 4 [(2, .int x10271), (1, .int x10272), (0, .ref (q 13))] [] := by
    intro n10316
    induction n10316 with
    | zero =>
      intro x10271 x10272 h10313 h10314 m10317 m10317z
      exact absurd m10317z (Nat.lt_irrefl 0)
    | succ n10316 ih =>
      intro x10271 x10272 h10313 h10314 m10317 m10317z
      refine g_iload_n hk dX6_gapCount_4 rfl ?_
      refine g_aload_n hk dX6_gapCount_5 rfl ?_
      refine gX_i18 (v := (I 18)) hk hin6 (List.mem_cons_of_mem _ (List.mem_append_left _ (List.mem_of_getElem? (i := 0) rfl))) dX6_gapCount_6 rfl ?_
      have f10318 := IvX_f18 hIv
      refine g_icmp_ge (tgt := 29) (a := x10271.toInt) (b := (I 18).toInt) hk dX6_gapCount_9 (by decide) rfl rfl (fun c10319 => ?_) (fun c10319 => ?_)
      · skip
        refine g_iload_n hk dX6_gapCount_29 rfl ?_
        have b10320l := Int32.le_toInt x10272
        have b10320h := Int32.toInt_lt x10272
        exact g_iret hk hR rfl ⟨x10272, rfl, rfl⟩ dX6_gapCount_30
      · skip
        refine g_aload_n hk dX6_gapCount_12 rfl ?_
        refine g_iload_n hk dX6_gapCount_13 rfl ?_
        refine g_callV (n := 1) hk (k188_X6_hasReading l D zt q d I A x10271 hIv) (SP.same _) (fun _ h => h) (gi_V (List.mem_cons_of_mem _ (List.mem_append_left _ (List.mem_of_getElem? (i := 1) rfl))) (List.mem_cons_of_mem _ (List.mem_append_left _ (List.mem_of_getElem? (i := 2) rfl))) (List.mem_cons_of_mem _ (List.mem_append_left _ (List.mem_of_getElem? (i := 3) rfl))) (List.mem_cons_of_mem _ (List.mem_append_left _ (List.mem_of_getElem? (i := 4) rfl))) (gi_sub (fun w h => (List.mem_cons_of_mem _ (List.mem_append_right _ (List.mem_append_right _ (List.mem_append_left _ h))))) zg_k188_X6_hasReading)) rfl rfl rfl (by decide +kernel) ⟨Nat.le_of_ble_eq_true rfl, Nat.le_of_ble_eq_true rfl⟩ 13 rfl rfl rfl rfl (Nat.le_of_ble_eq_true rfl) ⟨Nat.le_of_ble_eq_true rfl, Nat.le_of_ble_eq_true rfl⟩ dX6_gapCount_14 (fun v ty' w' hp hk' => ?_)
        rcases hp with ⟨rfl, rfl⟩ | ⟨rfl, rfl⟩
        · skip
          show GW κ 3 0 0 (wX q d I A) 17 [(2, .int x10271), (1, .int x10272), (0, .ref (q 13))] [.int 0]
          refine g_if_ne (tgt := 23) (a := 0) hk dX6_gapCount_17 (by decide) rfl (fun z9 => absurd z9 (show ¬ ((0 : Int) ≠ (0 : Int)) from by decide)) (fun _ => ?_)
          have b10323l := Int32.le_toInt x10272
          have b10323h := Int32.toInt_lt x10272
          obtain ⟨y10324, ey10324⟩ : ∃ y : Int32, y = x10272 + Int32.ofInt 1 := ⟨_, rfl⟩
          refine g_iinc (v := y10324) (lv' := [(1, .int y10324), (2, .int x10271), (0, .ref (q 13))]) hk 1 dX6_gapCount_20 rfl ey10324.symm (by decide) rfl ?_
          obtain ⟨y10325, ey10325⟩ : ∃ y : Int32, y = x10271 + Int32.ofInt 1 := ⟨_, rfl⟩
          have hy10325 : y10325.toInt = x10271.toInt + 1 := i32_add ey10325 rfl (by decide) (by omega) (by omega)
          refine g_iinc (v := y10325) (lv' := [(2, .int y10325), (1, .int y10324), (0, .ref (q 13))]) hk 1 dX6_gapCount_23 rfl ey10325.symm (by decide) rfl ?_
          refine g_goto (tgt := 4) hk dX6_gapCount_26 (by decide) ?_
          exact g_lv (List.forall_mem_cons.mpr ⟨List.mem_of_getElem? (i := 0) rfl, (List.forall_mem_cons.mpr ⟨List.mem_of_getElem? (i := 1) rfl, (List.forall_mem_cons.mpr ⟨List.mem_of_getElem? (i := 2) rfl, (fun _ h => absurd h List.not_mem_nil)⟩)⟩)⟩) (ih y10325 y10324 (by omega) (by omega) (by omega) (by omega))
        · skip
          show GW κ 3 0 0 (wX q d I A) 17 [(2, .int x10271), (1, .int x10272), (0, .ref (q 13))] [.int 1]
          refine g_if_ne (tgt := 23) (a := 1) hk dX6_gapCount_17 (by decide) rfl (fun _ => ?_) (fun z9 => absurd (show (1 : Int) ≠ (0 : Int) from by decide) z9)
          obtain ⟨y10326, ey10326⟩ : ∃ y : Int32, y = x10271 + Int32.ofInt 1 := ⟨_, rfl⟩
          have hy10326 : y10326.toInt = x10271.toInt + 1 := i32_add ey10326 rfl (by decide) (by omega) (by omega)
          refine g_iinc (v := y10326) (lv' := [(2, .int y10326), (1, .int x10272), (0, .ref (q 13))]) hk 0 dX6_gapCount_23 rfl ey10326.symm (by decide) rfl ?_
          refine g_goto (tgt := 4) hk dX6_gapCount_26 (by decide) ?_
          exact g_lv (List.forall_mem_cons.mpr ⟨List.mem_of_getElem? (i := 0) rfl, (List.forall_mem_cons.mpr ⟨List.mem_of_getElem? (i := 1) rfl, (List.forall_mem_cons.mpr ⟨List.mem_of_getElem? (i := 2) rfl, (fun _ h => absurd h List.not_mem_nil)⟩)⟩)⟩) (ih y10326 x10272 (by omega) (by omega) (by omega) (by omega))
  have k10328 : (0 : Int32).toInt = 0 := rfl
  obtain ⟨n10327, n10327a, n10327b⟩ : ∃ n : Nat, 161 - 0 < (n : Int) ∧ 0 < n := ⟨((161 - 0 : Int)).toNat + 1, by omega, by omega⟩
  exact lp10315 n10327 0 0 (by omega) (by omega) n10327a n10327b
def wo_k339_X6_readingsAtEnd : List Cond := [Cond.fieldLink RX6 19 "WarpDesk$Series" "size" "I", Cond.methodLink RX6 37 yX6_hasReading, Cond.instanceMethod yX6_hasReading, Cond.selects RX6 yX6_hasReading yX6_hasReading, Cond.initialized RX6]
def wz_k339_X6_readingsAtEnd : List Cond := .code yX6_readingsAtEnd cX6_readingsAtEnd 3 (some .int) :: (wo_k339_X6_readingsAtEnd ++ (wsX60 ++ (wz_k188_X6_hasReading ++ ([] : List Cond))))
theorem zg_k339_X6_readingsAtEnd : ∀ w ∈ wz_k339_X6_readingsAtEnd, goodWord w = true := zg_cons rfl (zg_app (by decide +kernel) (zg_app zgU_wsX60 (zg_app zg_k188_X6_hasReading zg_nil)))
theorem zi_k339_X6_readingsAtEnd : ∀ w ∈ wz_k339_X6_readingsAtEnd, w ∈ lw_tbl := zi_cons zw_1350 (zi_app (zi_cons zw_282 (zi_cons zw_905 (zi_cons zw_840 (zi_cons zw_841 (zi_cons zw_109 zi_nil))))) (zi_app inX6 (zi_app zi_k188_X6_hasReading zi_nil)))
set_option maxHeartbeats 4000000 in
set_option maxRecDepth 100000 in
theorem k339_X6_readingsAtEnd (l : Launch) (D : va_G) (zt : Nat × Nat × Nat × (Nat → Nat) × (Nat → Nat)) (q : Nat → Nat) (d : Nat → ClassId) (I : Nat → Int32) (A : Nat → Nat → Int32) (hIv : IvX I A) : GM l D zt (tyX d) yX6_readingsAtEnd wz_k339_X6_readingsAtEnd ({ frames := 2, cells := 0, slots := 0, locals := 42 } : Room) [.ref (q 13)] (wX q d I A) (fun v _ w' => ∃ y0 : Int32, v = some (.int y0) ∧ w' = wX q d I A) 0 0 := by
  refine GM.of (cc := cX6_readingsAtEnd) (maxL := 3) (ret := (some .int)) (own := RX6) (lv := [(0, .ref (q 13))]) (by decide) rfl rfl (Nat.le_of_ble_eq_true rfl) rfl (fun κ sz hk hR hN => ?_)
  have hin6 : ∀ w ∈ u_ws RX6 TX6 3, w ∈ wz_k339_X6_readingsAtEnd := fun w h => (List.mem_cons_of_mem _ (List.mem_append_right _ (List.mem_append_left _ h)))
  refine g_iconst (v := 0) hk dX6_readingsAtEnd_0 (by decide) ?_
  refine g_istore_n (lv' := [(1, .int 0), (0, .ref (q 13))]) hk dX6_readingsAtEnd_1 (by decide) rfl ?_
  refine g_aload_n hk dX6_readingsAtEnd_2 rfl ?_
  refine gX_i18 (v := (I 18)) hk hin6 (List.mem_cons_of_mem _ (List.mem_append_left _ (List.mem_of_getElem? (i := 0) rfl))) dX6_readingsAtEnd_3 rfl ?_
  have f10350 := IvX_f18 hIv
  refine g_iconst (v := 1) hk dX6_readingsAtEnd_6 (by decide) ?_
  refine g_isub hk dX6_readingsAtEnd_7 ?_
  refine g_topi (fun y10351 ey10351 => ?_)
  have hy10351 : y10351.toInt = (I 18).toInt - 1 := i32_sub ey10351 rfl rfl (by omega) (by omega)
  refine g_istore_n (lv' := [(2, .int y10351), (1, .int 0), (0, .ref (q 13))]) hk dX6_readingsAtEnd_8 (by decide) rfl ?_
  have lp10379 : ∀ (n10380 : Nat) (x10352 : Int32) (x10353 : Int32), ((-1) ≤ x10352.toInt) → (x10352.toInt ≤ 159) → (x10352.toInt + 1 - 0 < (n10380 : Int)) → (0 < n10380) → GW κ 3 0 0 (wX q d I A) 9 [(2, .int x10352), (1, .int x10353), (0, .ref (q 13))] [] := by
    intro n10380
    induction n10380 with
    | zero =>
      intro x10352 x10353 h10377 h10378 m10381 m10381z
      exact absurd m10381z (Nat.lt_irrefl 0)
    | succ n10380 ih =>
      intro x10352 x10353 h10377 h10378 m10381 m10381z
      refine g_iload_n hk dX6_readingsAtEnd_9 rfl ?_
      refine g_if_lt (tgt := 30) (a := x10352.toInt) hk dX6_readingsAtEnd_10 (by decide) rfl (fun c10382 => ?_) (fun c10382 => ?_)
      · skip
        refine g_iload_n hk dX6_readingsAtEnd_30 rfl ?_
        have b10383l := Int32.le_toInt x10353
        have b10383h := Int32.toInt_lt x10353
        exact g_iret hk hR rfl ⟨x10353, rfl, rfl⟩ dX6_readingsAtEnd_31
      · skip
        refine g_aload_n hk dX6_readingsAtEnd_13 rfl ?_
        refine g_iload_n hk dX6_readingsAtEnd_14 rfl ?_
        refine g_callV (n := 1) hk (k188_X6_hasReading l D zt q d I A x10352 hIv) (SP.same _) (fun _ h => h) (gi_V (List.mem_cons_of_mem _ (List.mem_append_left _ (List.mem_of_getElem? (i := 1) rfl))) (List.mem_cons_of_mem _ (List.mem_append_left _ (List.mem_of_getElem? (i := 2) rfl))) (List.mem_cons_of_mem _ (List.mem_append_left _ (List.mem_of_getElem? (i := 3) rfl))) (List.mem_cons_of_mem _ (List.mem_append_left _ (List.mem_of_getElem? (i := 4) rfl))) (gi_sub (fun w h => (List.mem_cons_of_mem _ (List.mem_append_right _ (List.mem_append_right _ (List.mem_append_left _ h))))) zg_k188_X6_hasReading)) rfl rfl rfl (by decide +kernel) ⟨Nat.le_of_ble_eq_true rfl, Nat.le_of_ble_eq_true rfl⟩ 13 rfl rfl rfl rfl (Nat.le_of_ble_eq_true rfl) ⟨Nat.le_of_ble_eq_true rfl, Nat.le_of_ble_eq_true rfl⟩ dX6_readingsAtEnd_15 (fun v ty' w' hp hk' => ?_)
        rcases hp with ⟨rfl, rfl⟩ | ⟨rfl, rfl⟩
        · skip
          show GW κ 3 0 0 (wX q d I A) 18 [(2, .int x10352), (1, .int x10353), (0, .ref (q 13))] [.int 0]
          refine g_if_eq (tgt := 30) (a := 0) hk dX6_readingsAtEnd_18 (by decide) rfl (fun _ => ?_) (fun z9 => absurd (show (0 : Int) = (0 : Int) from by decide) z9)
          refine g_iload_n hk dX6_readingsAtEnd_30 rfl ?_
          have b10386l := Int32.le_toInt x10353
          have b10386h := Int32.toInt_lt x10353
          exact g_iret hk hR rfl ⟨x10353, rfl, rfl⟩ dX6_readingsAtEnd_31
        · skip
          show GW κ 3 0 0 (wX q d I A) 18 [(2, .int x10352), (1, .int x10353), (0, .ref (q 13))] [.int 1]
          refine g_if_eq (tgt := 30) (a := 1) hk dX6_readingsAtEnd_18 (by decide) rfl (fun z9 => absurd z9 (show ¬ ((1 : Int) = (0 : Int)) from by decide)) (fun _ => ?_)
          have b10387l := Int32.le_toInt x10353
          have b10387h := Int32.toInt_lt x10353
          obtain ⟨y10388, ey10388⟩ : ∃ y : Int32, y = x10353 + Int32.ofInt 1 := ⟨_, rfl⟩
          refine g_iinc (v := y10388) (lv' := [(1, .int y10388), (2, .int x10352), (0, .ref (q 13))]) hk 1 dX6_readingsAtEnd_21 rfl ey10388.symm (by decide) rfl ?_
          obtain ⟨y10389, ey10389⟩ : ∃ y : Int32, y = x10352 + Int32.ofInt (-1) := ⟨_, rfl⟩
          have hy10389 : y10389.toInt = x10352.toInt + (-1) := i32_add ey10389 rfl (by decide) (by omega) (by omega)
          refine g_iinc (v := y10389) (lv' := [(2, .int y10389), (1, .int y10388), (0, .ref (q 13))]) hk 1 dX6_readingsAtEnd_24 rfl ey10389.symm (by decide) rfl ?_
          refine g_goto (tgt := 9) hk dX6_readingsAtEnd_27 (by decide) ?_
          exact g_lv (List.forall_mem_cons.mpr ⟨List.mem_of_getElem? (i := 0) rfl, (List.forall_mem_cons.mpr ⟨List.mem_of_getElem? (i := 1) rfl, (List.forall_mem_cons.mpr ⟨List.mem_of_getElem? (i := 2) rfl, (fun _ h => absurd h List.not_mem_nil)⟩)⟩)⟩) (ih y10389 y10388 (by omega) (by omega) (by omega) (by omega))
  have k10391 : (0 : Int32).toInt = 0 := rfl
  obtain ⟨n10390, n10390a, n10390b⟩ : ∃ n : Nat, y10351.toInt + 1 - 0 < (n : Int) ∧ 0 < n := ⟨((y10351.toInt + 1 - 0 : Int)).toNat + 1, by omega, by omega⟩
  exact lp10379 n10390 y10351 0 (by omega) (by omega) n10390a n10390b
def wo_k340_X11_slotsHeld : List Cond := [Cond.fieldLink RX11 56 "WarpDesk" "slots" "[LWarpDesk$Stand;", Cond.fieldLink RX11 110 "WarpDesk$Stand" "held" "Z"]
def wz_k340_X11_slotsHeld : List Cond := .code yX11_slotsHeld cX11_slotsHeld 3 (some .int) :: (wo_k340_X11_slotsHeld ++ (wsX80 ++ (wsX110 ++ ([] : List Cond))))
theorem zg_k340_X11_slotsHeld : ∀ w ∈ wz_k340_X11_slotsHeld, goodWord w = true := zg_cons rfl (zg_app (by decide +kernel) (zg_app zgU_wsX80 (zg_app zgU_wsX110 zg_nil)))
theorem zi_k340_X11_slotsHeld : ∀ w ∈ wz_k340_X11_slotsHeld, w ∈ lw_tbl := zi_cons zw_1354 (zi_app (zi_cons zw_493 (zi_cons zw_201 zi_nil)) (zi_app inX8 (zi_app inX11 zi_nil)))
set_option maxHeartbeats 4000000 in
set_option maxRecDepth 100000 in
theorem k340_X11_slotsHeld (l : Launch) (D : va_G) (zt : Nat × Nat × Nat × (Nat → Nat) × (Nat → Nat)) (q : Nat → Nat) (d : Nat → ClassId) (I : Nat → Int32) (A : Nat → Nat → Int32) (hIv : IvX I A) : GM l D zt (tyX d) yX11_slotsHeld wz_k340_X11_slotsHeld ({ frames := 0, cells := 0, slots := 0, locals := 0 } : Room) [.ref (q 0)] (wX q d I A) (fun v _ w' => ∃ y0 : Int32, v = some (.int y0) ∧ w' = wX q d I A) 0 0 := by
  refine GM.of (cc := cX11_slotsHeld) (maxL := 3) (ret := (some .int)) (own := RX11) (lv := [(0, .ref (q 0))]) (by decide) rfl rfl (Nat.le_of_ble_eq_true rfl) rfl (fun κ sz hk hR hN => ?_)
  have hin8 : ∀ w ∈ u_ws RX8 TX8 4, w ∈ wz_k340_X11_slotsHeld := fun w h => (List.mem_cons_of_mem _ (List.mem_append_right _ (List.mem_append_left _ h)))
  have hin11 : ∀ w ∈ u_ws RX11 TX11 10, w ∈ wz_k340_X11_slotsHeld := fun w h => (List.mem_cons_of_mem _ (List.mem_append_right _ (List.mem_append_right _ (List.mem_append_left _ h))))
  refine g_iconst (v := 0) hk dX11_slotsHeld_0 (by decide) ?_
  refine g_istore_n (lv' := [(1, .int 0), (0, .ref (q 0))]) hk dX11_slotsHeld_1 (by decide) rfl ?_
  refine g_iconst (v := 0) hk dX11_slotsHeld_2 (by decide) ?_
  refine g_istore_n (lv' := [(2, .int 0), (1, .int 0), (0, .ref (q 0))]) hk dX11_slotsHeld_3 (by decide) rfl ?_
  have lp10451 : ∀ (n10452 : Nat) (x10404 : Int32) (x10405 : Int32), (0 ≤ x10404.toInt) → (x10404.toInt ≤ 3) → (3 - x10404.toInt < (n10452 : Int)) → (0 < n10452) → GW κ 3 0 0 (wX q d I A) 4 [(2, .int x10404), (1, .int x10405), (0, .ref (q 0))] [] := by
    intro n10452
    induction n10452 with
    | zero =>
      intro x10404 x10405 h10449 h10450 m10453 m10453z
      exact absurd m10453z (Nat.lt_irrefl 0)
    | succ n10452 ih =>
      intro x10404 x10405 h10449 h10450 m10453 m10453z
      refine g_iload_n hk dX11_slotsHeld_4 rfl ?_
      refine g_aload_n hk dX11_slotsHeld_5 rfl ?_
      refine gX_r0_6 hk hin11 (List.mem_cons_of_mem _ (List.mem_append_left _ (List.mem_of_getElem? (i := 0) rfl))) dX11_slotsHeld_6 ?_
      refine nX_14 hk dX11_slotsHeld_9 ?_
      refine g_icmp_ge (tgt := 34) (a := x10404.toInt) (b := 3) hk dX11_slotsHeld_10 (by decide) rfl rfl (fun c10454 => ?_) (fun c10454 => ?_)
      · skip
        refine g_iload_n hk dX11_slotsHeld_34 rfl ?_
        have b10455l := Int32.le_toInt x10405
        have b10455h := Int32.toInt_lt x10405
        exact g_iret hk hR rfl ⟨x10405, rfl, rfl⟩ dX11_slotsHeld_35
      · skip
        refine g_aload_n hk dX11_slotsHeld_13 rfl ?_
        refine gX_r0_6 hk hin11 (List.mem_cons_of_mem _ (List.mem_append_left _ (List.mem_of_getElem? (i := 0) rfl))) dX11_slotsHeld_14 ?_
        refine g_iload_n hk dX11_slotsHeld_17 rfl ?_
        by_cases c10456 : x10404.toInt = 0
        · have ec10456 : x10404 = 0 := Int32.toInt_inj.mp c10456
          rw [ec10456]
          show GW κ 3 0 0 (wX q d I A) 18 [(2, .int 0), (1, .int x10405), (0, .ref (q 0))] [.int 0, .ref (q 24)]
          refine lX_14 hk (vp_in_iff.mpr ⟨by decide, by decide⟩) rfl dX11_slotsHeld_18 ?_
          refine gX_i23 (v := (I 23)) hk hin8 (List.mem_cons_of_mem _ (List.mem_append_left _ (List.mem_of_getElem? (i := 1) rfl))) dX11_slotsHeld_19 rfl ?_
          have b10457l := Int32.le_toInt (I 23)
          have b10457h := Int32.toInt_lt (I 23)
          refine g_if_eq (tgt := 28) (a := (I 23).toInt) hk dX11_slotsHeld_22 (by decide) rfl (fun c10458 => ?_) (fun c10458 => ?_)
          · skip
            refine g_iinc (v := 1) (lv' := [(2, .int 1), (1, .int x10405), (0, .ref (q 0))]) hk 0 dX11_slotsHeld_28 rfl (by decide) (by decide) rfl ?_
            refine g_goto (tgt := 4) hk dX11_slotsHeld_31 (by decide) ?_
            have k10459 : (1 : Int32).toInt = 1 := rfl
            exact g_lv (List.forall_mem_cons.mpr ⟨List.mem_of_getElem? (i := 0) rfl, (List.forall_mem_cons.mpr ⟨List.mem_of_getElem? (i := 1) rfl, (List.forall_mem_cons.mpr ⟨List.mem_of_getElem? (i := 2) rfl, (fun _ h => absurd h List.not_mem_nil)⟩)⟩)⟩) (ih 1 x10405 (by omega) (by omega) (by omega) (by omega))
          · skip
            have b10460l := Int32.le_toInt x10405
            have b10460h := Int32.toInt_lt x10405
            obtain ⟨y10461, ey10461⟩ : ∃ y : Int32, y = x10405 + Int32.ofInt 1 := ⟨_, rfl⟩
            refine g_iinc (v := y10461) (lv' := [(1, .int y10461), (2, .int 0), (0, .ref (q 0))]) hk 1 dX11_slotsHeld_25 rfl ey10461.symm (by decide) rfl ?_
            refine g_iinc (v := 1) (lv' := [(2, .int 1), (1, .int y10461), (0, .ref (q 0))]) hk 1 dX11_slotsHeld_28 rfl (by decide) (by decide) rfl ?_
            refine g_goto (tgt := 4) hk dX11_slotsHeld_31 (by decide) ?_
            have k10462 : (1 : Int32).toInt = 1 := rfl
            exact g_lv (List.forall_mem_cons.mpr ⟨List.mem_of_getElem? (i := 0) rfl, (List.forall_mem_cons.mpr ⟨List.mem_of_getElem? (i := 1) rfl, (List.forall_mem_cons.mpr ⟨List.mem_of_getElem? (i := 2) rfl, (fun _ h => absurd h List.not_mem_nil)⟩)⟩)⟩) (ih 1 y10461 (by omega) (by omega) (by omega) (by omega))
        by_cases c10463 : x10404.toInt = 1
        · have ec10463 : x10404 = 1 := Int32.toInt_inj.mp c10463
          rw [ec10463]
          show GW κ 3 0 0 (wX q d I A) 18 [(2, .int 1), (1, .int x10405), (0, .ref (q 0))] [.int 1, .ref (q 24)]
          refine lX_14 hk (vp_in_iff.mpr ⟨by decide, by decide⟩) rfl dX11_slotsHeld_18 ?_
          refine gX_i25 (v := (I 25)) hk hin8 (List.mem_cons_of_mem _ (List.mem_append_left _ (List.mem_of_getElem? (i := 1) rfl))) dX11_slotsHeld_19 rfl ?_
          have b10464l := Int32.le_toInt (I 25)
          have b10464h := Int32.toInt_lt (I 25)
          refine g_if_eq (tgt := 28) (a := (I 25).toInt) hk dX11_slotsHeld_22 (by decide) rfl (fun c10465 => ?_) (fun c10465 => ?_)
          · skip
            refine g_iinc (v := 2) (lv' := [(2, .int 2), (1, .int x10405), (0, .ref (q 0))]) hk 0 dX11_slotsHeld_28 rfl (by decide) (by decide) rfl ?_
            refine g_goto (tgt := 4) hk dX11_slotsHeld_31 (by decide) ?_
            have k10466 : (2 : Int32).toInt = 2 := rfl
            exact g_lv (List.forall_mem_cons.mpr ⟨List.mem_of_getElem? (i := 0) rfl, (List.forall_mem_cons.mpr ⟨List.mem_of_getElem? (i := 1) rfl, (List.forall_mem_cons.mpr ⟨List.mem_of_getElem? (i := 2) rfl, (fun _ h => absurd h List.not_mem_nil)⟩)⟩)⟩) (ih 2 x10405 (by omega) (by omega) (by omega) (by omega))
          · skip
            have b10467l := Int32.le_toInt x10405
            have b10467h := Int32.toInt_lt x10405
            obtain ⟨y10468, ey10468⟩ : ∃ y : Int32, y = x10405 + Int32.ofInt 1 := ⟨_, rfl⟩
            refine g_iinc (v := y10468) (lv' := [(1, .int y10468), (2, .int 1), (0, .ref (q 0))]) hk 1 dX11_slotsHeld_25 rfl ey10468.symm (by decide) rfl ?_
            refine g_iinc (v := 2) (lv' := [(2, .int 2), (1, .int y10468), (0, .ref (q 0))]) hk 1 dX11_slotsHeld_28 rfl (by decide) (by decide) rfl ?_
            refine g_goto (tgt := 4) hk dX11_slotsHeld_31 (by decide) ?_
            have k10469 : (2 : Int32).toInt = 2 := rfl
            exact g_lv (List.forall_mem_cons.mpr ⟨List.mem_of_getElem? (i := 0) rfl, (List.forall_mem_cons.mpr ⟨List.mem_of_getElem? (i := 1) rfl, (List.forall_mem_cons.mpr ⟨List.mem_of_getElem? (i := 2) rfl, (fun _ h => absurd h List.not_mem_nil)⟩)⟩)⟩) (ih 2 y10468 (by omega) (by omega) (by omega) (by omega))
        by_cases c10470 : x10404.toInt = 2
        · have ec10470 : x10404 = 2 := Int32.toInt_inj.mp c10470
          rw [ec10470]
          show GW κ 3 0 0 (wX q d I A) 18 [(2, .int 2), (1, .int x10405), (0, .ref (q 0))] [.int 2, .ref (q 24)]
          refine lX_14 hk (vp_in_iff.mpr ⟨by decide, by decide⟩) rfl dX11_slotsHeld_18 ?_
          refine gX_i27 (v := (I 27)) hk hin8 (List.mem_cons_of_mem _ (List.mem_append_left _ (List.mem_of_getElem? (i := 1) rfl))) dX11_slotsHeld_19 rfl ?_
          have b10471l := Int32.le_toInt (I 27)
          have b10471h := Int32.toInt_lt (I 27)
          refine g_if_eq (tgt := 28) (a := (I 27).toInt) hk dX11_slotsHeld_22 (by decide) rfl (fun c10472 => ?_) (fun c10472 => ?_)
          · skip
            refine g_iinc (v := 3) (lv' := [(2, .int 3), (1, .int x10405), (0, .ref (q 0))]) hk 0 dX11_slotsHeld_28 rfl (by decide) (by decide) rfl ?_
            refine g_goto (tgt := 4) hk dX11_slotsHeld_31 (by decide) ?_
            have k10473 : (3 : Int32).toInt = 3 := rfl
            exact g_lv (List.forall_mem_cons.mpr ⟨List.mem_of_getElem? (i := 0) rfl, (List.forall_mem_cons.mpr ⟨List.mem_of_getElem? (i := 1) rfl, (List.forall_mem_cons.mpr ⟨List.mem_of_getElem? (i := 2) rfl, (fun _ h => absurd h List.not_mem_nil)⟩)⟩)⟩) (ih 3 x10405 (by omega) (by omega) (by omega) (by omega))
          · skip
            have b10474l := Int32.le_toInt x10405
            have b10474h := Int32.toInt_lt x10405
            obtain ⟨y10475, ey10475⟩ : ∃ y : Int32, y = x10405 + Int32.ofInt 1 := ⟨_, rfl⟩
            refine g_iinc (v := y10475) (lv' := [(1, .int y10475), (2, .int 2), (0, .ref (q 0))]) hk 1 dX11_slotsHeld_25 rfl ey10475.symm (by decide) rfl ?_
            refine g_iinc (v := 3) (lv' := [(2, .int 3), (1, .int y10475), (0, .ref (q 0))]) hk 1 dX11_slotsHeld_28 rfl (by decide) (by decide) rfl ?_
            refine g_goto (tgt := 4) hk dX11_slotsHeld_31 (by decide) ?_
            have k10476 : (3 : Int32).toInt = 3 := rfl
            exact g_lv (List.forall_mem_cons.mpr ⟨List.mem_of_getElem? (i := 0) rfl, (List.forall_mem_cons.mpr ⟨List.mem_of_getElem? (i := 1) rfl, (List.forall_mem_cons.mpr ⟨List.mem_of_getElem? (i := 2) rfl, (fun _ h => absurd h List.not_mem_nil)⟩)⟩)⟩) (ih 3 y10475 (by omega) (by omega) (by omega) (by omega))
        exfalso; omega
  have k10478 : (0 : Int32).toInt = 0 := rfl
  obtain ⟨n10477, n10477a, n10477b⟩ : ∃ n : Nat, 3 - 0 < (n : Int) ∧ 0 < n := ⟨((3 - 0 : Int)).toNat + 1, by omega, by omega⟩
  exact lp10451 n10477 0 0 (by omega) (by omega) n10477a n10477b
