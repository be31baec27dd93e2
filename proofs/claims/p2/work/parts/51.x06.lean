def wo_k283_X1_rankOf : List Cond := [Cond.methodLink RX1 142 yX1_scannedDistance, Cond.instanceMethod yX1_scannedDistance, Cond.selects RX1 yX1_scannedDistance yX1_scannedDistance, Cond.initialized RX1, Cond.fieldLink RX1 15 "WarpDesk$Finder" "distances" "[I"]
def wz_k283_X1_rankOf : List Cond := .code yX1_rankOf cX1_rankOf 6 (some .int) :: (wo_k283_X1_rankOf ++ (wsX10 ++ (wz_k284_X1_scannedDistance ++ ([] : List Cond))))
theorem zg_k283_X1_rankOf : ∀ w ∈ wz_k283_X1_rankOf, goodWord w = true := zg_cons rfl (zg_app (by decide +kernel) (zg_app zgU_wsX10 (zg_app zg_k284_X1_scannedDistance zg_nil)))
theorem zi_k283_X1_rankOf : ∀ w ∈ wz_k283_X1_rankOf, w ∈ lw_tbl := zi_cons zw_1212 (zi_app (zi_cons zw_1213 (zi_cons zw_1214 (zi_cons zw_1215 (zi_cons zw_113 (zi_cons zw_411 zi_nil))))) (zi_app inX1 (zi_app zi_k284_X1_scannedDistance zi_nil)))
set_option maxHeartbeats 4000000 in
set_option maxRecDepth 100000 in
theorem k283_X1_rankOf (l : Launch) (D : va_G) (zt : Nat × Nat × Nat × (Nat → Nat) × (Nat → Nat)) (q : Nat → Nat) (d : Nat → ClassId) (I : Nat → Int32) (A : Nat → Nat → Int32) (z1 : Int32) (hIv : IvX I A) : GM l D zt (tyX d) yX1_rankOf wz_k283_X1_rankOf ({ frames := 1, cells := 0, slots := 0, locals := 21 } : Room) [.ref (q 43), .int z1] (wX q d I A) (fun v _ w' => ∃ y0 : Int32, v = some (.int y0) ∧ w' = wX q d I A) 0 0 := by
  refine GM.of (cc := cX1_rankOf) (maxL := 6) (ret := (some .int)) (own := RX1) (lv := [(0, .ref (q 43)), (1, .int z1)]) (by decide) rfl rfl (Nat.le_of_ble_eq_true rfl) rfl (fun κ sz hk hR hN => ?_)
  have hin1 : ∀ w ∈ u_ws RX1 TX1 11, w ∈ wz_k283_X1_rankOf := fun w h => (List.mem_cons_of_mem _ (List.mem_append_right _ (List.mem_append_left _ h)))
  refine g_aload_n hk dX1_rankOf_0 rfl ?_
  refine g_iload_n hk dX1_rankOf_1 rfl ?_
  refine g_callV (n := 1) hk (k284_X1_scannedDistance l D zt q d I A z1 hIv) (SP.same _) (fun _ h => h) (gi_V (List.mem_cons_of_mem _ (List.mem_append_left _ (List.mem_of_getElem? (i := 0) rfl))) (List.mem_cons_of_mem _ (List.mem_append_left _ (List.mem_of_getElem? (i := 1) rfl))) (List.mem_cons_of_mem _ (List.mem_append_left _ (List.mem_of_getElem? (i := 2) rfl))) (List.mem_cons_of_mem _ (List.mem_append_left _ (List.mem_of_getElem? (i := 3) rfl))) (gi_sub (fun w h => (List.mem_cons_of_mem _ (List.mem_append_right _ (List.mem_append_right _ (List.mem_append_left _ h))))) zg_k284_X1_scannedDistance)) rfl rfl rfl (by decide +kernel) ⟨Nat.le_of_ble_eq_true rfl, Nat.le_of_ble_eq_true rfl⟩ 43 rfl rfl rfl rfl (Nat.le_of_ble_eq_true rfl) ⟨Nat.le_of_ble_eq_true rfl, Nat.le_of_ble_eq_true rfl⟩ dX1_rankOf_2 (fun v ty' w' hp hk' => ?_)
  obtain ⟨y8004, rfl, rfl⟩ := hp
  show GW κ 6 0 0 (wX q d I A) 5 [(0, .ref (q 43)), (1, .int z1)] [.int y8004]
  refine g_istore_n (lv' := [(2, .int y8004), (0, .ref (q 43)), (1, .int z1)]) hk dX1_rankOf_5 (by decide) rfl ?_
  refine g_iconst (v := 0) hk dX1_rankOf_6 (by decide) ?_
  refine g_istore_n (lv' := [(3, .int 0), (2, .int y8004), (0, .ref (q 43)), (1, .int z1)]) hk dX1_rankOf_7 (by decide) rfl ?_
  refine g_iconst (v := 0) hk dX1_rankOf_8 (by decide) ?_
  refine g_istore (lv' := [(4, .int 0), (3, .int 0), (2, .int y8004), (0, .ref (q 43)), (1, .int z1)]) hk dX1_rankOf_9 (by decide) rfl ?_
  have lp8087 : ∀ (n8088 : Nat) (x8005 : Int32) (x8006 : Int32), (0 ≤ x8005.toInt) → (x8005.toInt ≤ 160) → (161 - x8005.toInt < (n8088 : Int)) → (0 < n8088) → GW κ 6 0 0 (wX q d I A) 11 [(4, .int x8005), (3, .int x8006), (2, .int y8004), (0, .ref (q 43)), (1, .int z1)] [] := by
    intro n8088
    induction n8088 with
    | zero =>
      intro x8005 x8006 h8085 h8086 m8089 m8089z
      exact absurd m8089z (Nat.lt_irrefl 0)
    | succ n8088 ih =>
      intro x8005 x8006 h8085 h8086 m8089 m8089z
      refine g_iload hk dX1_rankOf_11 rfl ?_
      refine g_sipush (v := 160) hk dX1_rankOf_13 (by decide) ?_
      refine g_icmp_ge (tgt := 60) (a := x8005.toInt) (b := 160) hk dX1_rankOf_16 (by decide) rfl rfl (fun c8090 => ?_) (fun c8090 => ?_)
      · skip
        refine g_iload_n hk dX1_rankOf_60 rfl ?_
        have b8091l := Int32.le_toInt x8006
        have b8091h := Int32.toInt_lt x8006
        exact g_iret hk hR rfl ⟨x8006, rfl, rfl⟩ dX1_rankOf_61
      · skip
        refine g_aload_n hk dX1_rankOf_19 rfl ?_
        refine gX_r43_6 hk hin1 (List.mem_cons_of_mem _ (List.mem_append_left _ (List.mem_of_getElem? (i := 4) rfl))) dX1_rankOf_20 ?_
        refine g_iload hk dX1_rankOf_23 rfl ?_
        refine lX_26 (v := (A 26 x8005.toNatClampNeg)) hk (vp_in_iff.mpr ⟨by omega, by omega⟩) rfl dX1_rankOf_25 ?_
        refine g_istore (lv' := [(5, .int (A 26 x8005.toNatClampNeg)), (4, .int x8005), (3, .int x8006), (2, .int y8004), (0, .ref (q 43)), (1, .int z1)]) hk dX1_rankOf_26 (by decide) rfl ?_
        refine g_iload hk dX1_rankOf_28 rfl ?_
        have b8092l := Int32.le_toInt (A 26 x8005.toNatClampNeg)
        have b8092h := Int32.toInt_lt (A 26 x8005.toNatClampNeg)
        refine g_if_lt (tgt := 54) (a := (A 26 x8005.toNatClampNeg).toInt) hk dX1_rankOf_30 (by decide) rfl (fun c8093 => ?_) (fun c8093 => ?_)
        · skip
          obtain ⟨y8094, ey8094⟩ : ∃ y : Int32, y = x8005 + Int32.ofInt 1 := ⟨_, rfl⟩
          have hy8094 : y8094.toInt = x8005.toInt + 1 := i32_add ey8094 rfl (by decide) (by omega) (by omega)
          refine g_iinc (v := y8094) (lv' := [(4, .int y8094), (5, .int (A 26 x8005.toNatClampNeg)), (3, .int x8006), (2, .int y8004), (0, .ref (q 43)), (1, .int z1)]) hk 1 dX1_rankOf_54 rfl ey8094.symm (by decide) rfl ?_
          refine g_goto (tgt := 11) hk dX1_rankOf_57 (by decide) ?_
          exact g_lv (List.forall_mem_cons.mpr ⟨List.mem_of_getElem? (i := 0) rfl, (List.forall_mem_cons.mpr ⟨List.mem_of_getElem? (i := 2) rfl, (List.forall_mem_cons.mpr ⟨List.mem_of_getElem? (i := 3) rfl, (List.forall_mem_cons.mpr ⟨List.mem_of_getElem? (i := 4) rfl, (List.forall_mem_cons.mpr ⟨List.mem_of_getElem? (i := 5) rfl, (fun _ h => absurd h List.not_mem_nil)⟩)⟩)⟩)⟩)⟩) (ih y8094 x8006 (by omega) (by omega) (by omega) (by omega))
        · skip
          refine g_iload hk dX1_rankOf_33 rfl ?_
          refine g_iload_n hk dX1_rankOf_35 rfl ?_
          have b8095l := Int32.le_toInt y8004
          have b8095h := Int32.toInt_lt y8004
          refine g_icmp_lt (tgt := 51) (a := (A 26 x8005.toNatClampNeg).toInt) (b := y8004.toInt) hk dX1_rankOf_36 (by decide) rfl rfl (fun c8096 => ?_) (fun c8096 => ?_)
          · skip
            have b8097l := Int32.le_toInt x8006
            have b8097h := Int32.toInt_lt x8006
            obtain ⟨y8098, ey8098⟩ : ∃ y : Int32, y = x8006 + Int32.ofInt 1 := ⟨_, rfl⟩
            refine g_iinc (v := y8098) (lv' := [(3, .int y8098), (5, .int (A 26 x8005.toNatClampNeg)), (4, .int x8005), (2, .int y8004), (0, .ref (q 43)), (1, .int z1)]) hk 2 dX1_rankOf_51 rfl ey8098.symm (by decide) rfl ?_
            obtain ⟨y8099, ey8099⟩ : ∃ y : Int32, y = x8005 + Int32.ofInt 1 := ⟨_, rfl⟩
            have hy8099 : y8099.toInt = x8005.toInt + 1 := i32_add ey8099 rfl (by decide) (by omega) (by omega)
            refine g_iinc (v := y8099) (lv' := [(4, .int y8099), (3, .int y8098), (5, .int (A 26 x8005.toNatClampNeg)), (2, .int y8004), (0, .ref (q 43)), (1, .int z1)]) hk 2 dX1_rankOf_54 rfl ey8099.symm (by decide) rfl ?_
            refine g_goto (tgt := 11) hk dX1_rankOf_57 (by decide) ?_
            exact g_lv (List.forall_mem_cons.mpr ⟨List.mem_of_getElem? (i := 0) rfl, (List.forall_mem_cons.mpr ⟨List.mem_of_getElem? (i := 1) rfl, (List.forall_mem_cons.mpr ⟨List.mem_of_getElem? (i := 3) rfl, (List.forall_mem_cons.mpr ⟨List.mem_of_getElem? (i := 4) rfl, (List.forall_mem_cons.mpr ⟨List.mem_of_getElem? (i := 5) rfl, (fun _ h => absurd h List.not_mem_nil)⟩)⟩)⟩)⟩)⟩) (ih y8099 y8098 (by omega) (by omega) (by omega) (by omega))
          · skip
            refine g_iload hk dX1_rankOf_39 rfl ?_
            refine g_iload_n hk dX1_rankOf_41 rfl ?_
            refine g_icmp_ne (tgt := 54) (a := (A 26 x8005.toNatClampNeg).toInt) (b := y8004.toInt) hk dX1_rankOf_42 (by decide) rfl rfl (fun c8100 => ?_) (fun c8100 => ?_)
            · skip
              obtain ⟨y8101, ey8101⟩ : ∃ y : Int32, y = x8005 + Int32.ofInt 1 := ⟨_, rfl⟩
              have hy8101 : y8101.toInt = x8005.toInt + 1 := i32_add ey8101 rfl (by decide) (by omega) (by omega)
              refine g_iinc (v := y8101) (lv' := [(4, .int y8101), (5, .int (A 26 x8005.toNatClampNeg)), (3, .int x8006), (2, .int y8004), (0, .ref (q 43)), (1, .int z1)]) hk 1 dX1_rankOf_54 rfl ey8101.symm (by decide) rfl ?_
              refine g_goto (tgt := 11) hk dX1_rankOf_57 (by decide) ?_
              exact g_lv (List.forall_mem_cons.mpr ⟨List.mem_of_getElem? (i := 0) rfl, (List.forall_mem_cons.mpr ⟨List.mem_of_getElem? (i := 2) rfl, (List.forall_mem_cons.mpr ⟨List.mem_of_getElem? (i := 3) rfl, (List.forall_mem_cons.mpr ⟨List.mem_of_getElem? (i := 4) rfl, (List.forall_mem_cons.mpr ⟨List.mem_of_getElem? (i := 5) rfl, (fun _ h => absurd h List.not_mem_nil)⟩)⟩)⟩)⟩)⟩) (ih y8101 x8006 (by omega) (by omega) (by omega) (by omega))
            · skip
              refine g_iload hk dX1_rankOf_45 rfl ?_
              refine g_iload_n hk dX1_rankOf_47 rfl ?_
              have b8102l := Int32.le_toInt z1
              have b8102h := Int32.toInt_lt z1
              refine g_icmp_ge (tgt := 54) (a := x8005.toInt) (b := z1.toInt) hk dX1_rankOf_48 (by decide) rfl rfl (fun c8103 => ?_) (fun c8103 => ?_)
              · skip
                obtain ⟨y8104, ey8104⟩ : ∃ y : Int32, y = x8005 + Int32.ofInt 1 := ⟨_, rfl⟩
                have hy8104 : y8104.toInt = x8005.toInt + 1 := i32_add ey8104 rfl (by decide) (by omega) (by omega)
                refine g_iinc (v := y8104) (lv' := [(4, .int y8104), (5, .int (A 26 x8005.toNatClampNeg)), (3, .int x8006), (2, .int y8004), (0, .ref (q 43)), (1, .int z1)]) hk 1 dX1_rankOf_54 rfl ey8104.symm (by decide) rfl ?_
                refine g_goto (tgt := 11) hk dX1_rankOf_57 (by decide) ?_
                exact g_lv (List.forall_mem_cons.mpr ⟨List.mem_of_getElem? (i := 0) rfl, (List.forall_mem_cons.mpr ⟨List.mem_of_getElem? (i := 2) rfl, (List.forall_mem_cons.mpr ⟨List.mem_of_getElem? (i := 3) rfl, (List.forall_mem_cons.mpr ⟨List.mem_of_getElem? (i := 4) rfl, (List.forall_mem_cons.mpr ⟨List.mem_of_getElem? (i := 5) rfl, (fun _ h => absurd h List.not_mem_nil)⟩)⟩)⟩)⟩)⟩) (ih y8104 x8006 (by omega) (by omega) (by omega) (by omega))
              · skip
                have b8105l := Int32.le_toInt x8006
                have b8105h := Int32.toInt_lt x8006
                obtain ⟨y8106, ey8106⟩ : ∃ y : Int32, y = x8006 + Int32.ofInt 1 := ⟨_, rfl⟩
                refine g_iinc (v := y8106) (lv' := [(3, .int y8106), (5, .int (A 26 x8005.toNatClampNeg)), (4, .int x8005), (2, .int y8004), (0, .ref (q 43)), (1, .int z1)]) hk 2 dX1_rankOf_51 rfl ey8106.symm (by decide) rfl ?_
                obtain ⟨y8107, ey8107⟩ : ∃ y : Int32, y = x8005 + Int32.ofInt 1 := ⟨_, rfl⟩
                have hy8107 : y8107.toInt = x8005.toInt + 1 := i32_add ey8107 rfl (by decide) (by omega) (by omega)
                refine g_iinc (v := y8107) (lv' := [(4, .int y8107), (3, .int y8106), (5, .int (A 26 x8005.toNatClampNeg)), (2, .int y8004), (0, .ref (q 43)), (1, .int z1)]) hk 2 dX1_rankOf_54 rfl ey8107.symm (by decide) rfl ?_
                refine g_goto (tgt := 11) hk dX1_rankOf_57 (by decide) ?_
                exact g_lv (List.forall_mem_cons.mpr ⟨List.mem_of_getElem? (i := 0) rfl, (List.forall_mem_cons.mpr ⟨List.mem_of_getElem? (i := 1) rfl, (List.forall_mem_cons.mpr ⟨List.mem_of_getElem? (i := 3) rfl, (List.forall_mem_cons.mpr ⟨List.mem_of_getElem? (i := 4) rfl, (List.forall_mem_cons.mpr ⟨List.mem_of_getElem? (i := 5) rfl, (fun _ h => absurd h List.not_mem_nil)⟩)⟩)⟩)⟩)⟩) (ih y8107 y8106 (by omega) (by omega) (by omega) (by omega))
  have k8109 : (0 : Int32).toInt = 0 := rfl
  obtain ⟨n8108, n8108a, n8108b⟩ : ∃ n : Nat, 161 - 0 < (n : Int) ∧ 0 < n := ⟨((161 - 0 : Int)).toNat + 1, by omega, by omega⟩
  exact lp8087 n8108 0 0 (by omega) (by omega) n8108a n8108b
def wo_k282_X11_rank : List Cond := [Cond.fieldLink RX11 65 "WarpDesk" "bench" "LWarpDesk$Bench;", Cond.methodLink RX11 299 yX0_hasBoth, Cond.instanceMethod yX0_hasBoth, Cond.selects RX0 yX0_hasBoth yX0_hasBoth, Cond.initialized RX0, Cond.fieldLink RX11 74 "WarpDesk" "finder" "LWarpDesk$Finder;", Cond.methodLink RX11 305 yX1_scan, Cond.instanceMethod yX1_scan, Cond.selects RX1 yX1_scan yX1_scan, Cond.initialized RX1, Cond.methodLink RX11 308 yX1_rankOf, Cond.instanceMethod yX1_rankOf, Cond.selects RX1 yX1_rankOf yX1_rankOf]
def wz_k282_X11_rank : List Cond := .code yX11_rank cX11_rank 3 (some .int) :: (wo_k282_X11_rank ++ (wsX110 ++ (wz_k223_X0_hasBoth ++ (wz_k270_X1_scan ++ (wz_k283_X1_rankOf ++ ([] : List Cond))))))
theorem zg_k282_X11_rank : ∀ w ∈ wz_k282_X11_rank, goodWord w = true := zg_cons rfl (zg_app (by decide +kernel) (zg_app zgU_wsX110 (zg_app zg_k223_X0_hasBoth (zg_app zg_k270_X1_scan (zg_app zg_k283_X1_rankOf zg_nil)))))
theorem zi_k282_X11_rank : ∀ w ∈ wz_k282_X11_rank, w ∈ lw_tbl := zi_cons zw_1207 (zi_app (zi_cons zw_494 (zi_cons zw_1198 (zi_cons zw_974 (zi_cons zw_975 (zi_cons zw_111 (zi_cons zw_495 (zi_cons zw_1208 (zi_cons zw_1152 (zi_cons zw_1153 (zi_cons zw_113 (zi_cons zw_1209 (zi_cons zw_1210 (zi_cons zw_1211 zi_nil))))))))))))) (zi_app inX11 (zi_app zi_k223_X0_hasBoth (zi_app zi_k270_X1_scan (zi_app zi_k283_X1_rankOf zi_nil)))))
set_option maxHeartbeats 4000000 in
set_option maxRecDepth 100000 in
theorem k282_X11_rank (l : Launch) (D : va_G) (zt : Nat × Nat × Nat × (Nat → Nat) × (Nat → Nat)) (q : Nat → Nat) (d : Nat → ClassId) (I : Nat → Int32) (A : Nat → Nat → Int32) (z1 : Int32) (z2 : Int32) (hIv : IvX I A) : GM l D zt (tyX d) yX11_rank wz_k282_X11_rank ({ frames := 6, cells := 0, slots := 0, locals := 131 } : Room) [.ref (q 0), .int z1, .int z2] (wX q d I A) (fun v _ w' => ∃ (I' : Nat → Int32) (A' : Nat → Nat → Int32), Md [28, 30, 31, 32, 33, 34] I I' ∧ Md [21, 22, 23, 26] A A' ∧ IvX I' A' ∧ ∃ y0 : Int32, v = some (.int y0) ∧ w' = wX q d I' A') 0 0 := by
  refine GM.of (cc := cX11_rank) (maxL := 3) (ret := (some .int)) (own := RX11) (lv := [(0, .ref (q 0)), (1, .int z1), (2, .int z2)]) (by decide) rfl rfl (Nat.le_of_ble_eq_true rfl) rfl (fun κ sz hk hR hN => ?_)
  have hin11 : ∀ w ∈ u_ws RX11 TX11 10, w ∈ wz_k282_X11_rank := fun w h => (List.mem_cons_of_mem _ (List.mem_append_right _ (List.mem_append_left _ h)))
  refine g_aload_n hk dX11_rank_0 rfl ?_
  refine gX_r0_7 hk hin11 (List.mem_cons_of_mem _ (List.mem_append_left _ (List.mem_of_getElem? (i := 0) rfl))) dX11_rank_1 ?_
  refine g_iload_n hk dX11_rank_4 rfl ?_
  refine g_iload_n hk dX11_rank_5 rfl ?_
  refine g_callV (n := 2) hk (k223_X0_hasBoth l D zt q d I A z1 z2 hIv) (SP.same _) (fun _ h => h) (gi_V (List.mem_cons_of_mem _ (List.mem_append_left _ (List.mem_of_getElem? (i := 1) rfl))) (List.mem_cons_of_mem _ (List.mem_append_left _ (List.mem_of_getElem? (i := 2) rfl))) (List.mem_cons_of_mem _ (List.mem_append_left _ (List.mem_of_getElem? (i := 3) rfl))) (List.mem_cons_of_mem _ (List.mem_append_left _ (List.mem_of_getElem? (i := 4) rfl))) (gi_sub (fun w h => (List.mem_cons_of_mem _ (List.mem_append_right _ (List.mem_append_right _ (List.mem_append_left _ h))))) zg_k223_X0_hasBoth)) rfl rfl rfl (by decide +kernel) ⟨Nat.le_of_ble_eq_true rfl, Nat.le_of_ble_eq_true rfl⟩ 37 rfl rfl rfl rfl (Nat.le_of_ble_eq_true rfl) ⟨Nat.le_of_ble_eq_true rfl, Nat.le_of_ble_eq_true rfl⟩ dX11_rank_6 (fun v ty' w' hp hk' => ?_)
  rcases hp with ⟨rfl, rfl⟩ | ⟨c7989, c7990, c7991, c7992, c7993, c7994, c7995, c7996, rfl, rfl⟩
  · skip
    show GW κ 3 0 0 (wX q d I A) 9 [(0, .ref (q 0)), (1, .int z1), (2, .int z2)] [.int 0]
    refine g_if_ne (tgt := 14) (a := 0) hk dX11_rank_9 (by decide) rfl (fun z9 => absurd z9 (show ¬ ((0 : Int) ≠ (0 : Int)) from by decide)) (fun _ => ?_)
    refine g_iconst (v := (-1)) hk dX11_rank_12 (by decide) ?_
    exact g_iret hk hR rfl ⟨I, A, (show Md [28, 30, 31, 32, 33, 34] I I from Md.rf), (show Md [21, 22, 23, 26] A A from Md.rf), hIv, (-1), rfl, rfl⟩ dX11_rank_13
  · skip
    show GW κ 3 0 0 (wX q d I A) 9 [(0, .ref (q 0)), (1, .int z1), (2, .int z2)] [.int 1]
    refine g_if_ne (tgt := 14) (a := 1) hk dX11_rank_9 (by decide) rfl (fun _ => ?_) (fun z9 => absurd (show (1 : Int) ≠ (0 : Int) from by decide) z9)
    refine g_aload_n hk dX11_rank_14 rfl ?_
    refine gX_r0_8 hk hin11 (List.mem_cons_of_mem _ (List.mem_append_left _ (List.mem_of_getElem? (i := 5) rfl))) dX11_rank_15 ?_
    refine g_iload_n hk dX11_rank_18 rfl ?_
    refine g_callV (n := 1) hk (k270_X1_scan l D zt q d I A z1 hIv) (SP.same _) (fun _ h => h) (gi_V (List.mem_cons_of_mem _ (List.mem_append_left _ (List.mem_of_getElem? (i := 6) rfl))) (List.mem_cons_of_mem _ (List.mem_append_left _ (List.mem_of_getElem? (i := 7) rfl))) (List.mem_cons_of_mem _ (List.mem_append_left _ (List.mem_of_getElem? (i := 8) rfl))) (List.mem_cons_of_mem _ (List.mem_append_left _ (List.mem_of_getElem? (i := 9) rfl))) (gi_sub (fun w h => (List.mem_cons_of_mem _ (List.mem_append_right _ (List.mem_append_right _ (List.mem_append_right _ (List.mem_append_left _ h)))))) zg_k270_X1_scan)) rfl rfl rfl (by decide +kernel) ⟨Nat.le_of_ble_eq_true rfl, Nat.le_of_ble_eq_true rfl⟩ 43 rfl rfl rfl rfl (Nat.le_of_ble_eq_true rfl) ⟨Nat.le_of_ble_eq_true rfl, Nat.le_of_ble_eq_true rfl⟩ dX11_rank_19 (fun v ty' w' hp hk' => ?_)
    obtain ⟨I7999, A7999, hI7999, hA7999, hV7999, rfl, rfl⟩ := hp
    show GW κ 3 0 0 (wX q d I7999 A7999) 22 [(0, .ref (q 0)), (1, .int z1), (2, .int z2)] []
    refine g_aload_n hk dX11_rank_22 rfl ?_
    refine gX_r0_8 hk hin11 (List.mem_cons_of_mem _ (List.mem_append_left _ (List.mem_of_getElem? (i := 5) rfl))) dX11_rank_23 ?_
    refine g_iload_n hk dX11_rank_26 rfl ?_
    refine g_callV (n := 1) hk (k283_X1_rankOf l D zt q d I7999 A7999 z2 hV7999) (SP.same _) (fun _ h => h) (gi_V (List.mem_cons_of_mem _ (List.mem_append_left _ (List.mem_of_getElem? (i := 10) rfl))) (List.mem_cons_of_mem _ (List.mem_append_left _ (List.mem_of_getElem? (i := 11) rfl))) (List.mem_cons_of_mem _ (List.mem_append_left _ (List.mem_of_getElem? (i := 12) rfl))) (List.mem_cons_of_mem _ (List.mem_append_left _ (List.mem_of_getElem? (i := 9) rfl))) (gi_sub (fun w h => (List.mem_cons_of_mem _ (List.mem_append_right _ (List.mem_append_right _ (List.mem_append_right _ (List.mem_append_right _ (List.mem_append_left _ h))))))) zg_k283_X1_rankOf)) rfl rfl rfl (by decide +kernel) ⟨Nat.le_of_ble_eq_true rfl, Nat.le_of_ble_eq_true rfl⟩ 43 rfl rfl rfl rfl (Nat.le_of_ble_eq_true rfl) ⟨Nat.le_of_ble_eq_true rfl, Nat.le_of_ble_eq_true rfl⟩ dX11_rank_27 (fun v ty' w' hp hk' => ?_)
    obtain ⟨y8110, rfl, rfl⟩ := hp
    show GW κ 3 0 0 (wX q d I7999 A7999) 30 [(0, .ref (q 0)), (1, .int z1), (2, .int z2)] [.int y8110]
    have b8111l := Int32.le_toInt y8110
    have b8111h := Int32.toInt_lt y8110
    exact g_iret hk hR rfl ⟨I7999, A7999, (show Md [28, 30, 31, 32, 33, 34] I I7999 from (Md.tr Md.rf hI7999 rfl)), (show Md [21, 22, 23, 26] A A7999 from (Md.tr Md.rf hA7999 rfl)), hV7999, y8110, rfl, rfl⟩ dX11_rank_30
def wo_k286_X1_windowOfRank : List Cond := [Cond.fieldLink RX1 15 "WarpDesk$Finder" "distances" "[I", Cond.methodLink RX1 145 yX1_rankOf, Cond.instanceMethod yX1_rankOf, Cond.selects RX1 yX1_rankOf yX1_rankOf, Cond.initialized RX1]
def wz_k286_X1_windowOfRank : List Cond := .code yX1_windowOfRank cX1_windowOfRank 3 (some .int) :: (wo_k286_X1_windowOfRank ++ (wsX10 ++ (wz_k283_X1_rankOf ++ ([] : List Cond))))
theorem zg_k286_X1_windowOfRank : ∀ w ∈ wz_k286_X1_windowOfRank, goodWord w = true := zg_cons rfl (zg_app (by decide +kernel) (zg_app zgU_wsX10 (zg_app zg_k283_X1_rankOf zg_nil)))
theorem zi_k286_X1_windowOfRank : ∀ w ∈ wz_k286_X1_windowOfRank, w ∈ lw_tbl := zi_cons zw_1224 (zi_app (zi_cons zw_411 (zi_cons zw_1225 (zi_cons zw_1210 (zi_cons zw_1211 (zi_cons zw_113 zi_nil))))) (zi_app inX1 (zi_app zi_k283_X1_rankOf zi_nil)))
set_option maxHeartbeats 4000000 in
set_option maxRecDepth 100000 in
theorem k286_X1_windowOfRank (l : Launch) (D : va_G) (zt : Nat × Nat × Nat × (Nat → Nat) × (Nat → Nat)) (q : Nat → Nat) (d : Nat → ClassId) (I : Nat → Int32) (A : Nat → Nat → Int32) (z1 : Int32) (hIv : IvX I A) : GM l D zt (tyX d) yX1_windowOfRank wz_k286_X1_windowOfRank ({ frames := 2, cells := 0, slots := 0, locals := 46 } : Room) [.ref (q 43), .int z1] (wX q d I A) (fun v _ w' => ∃ y0 : Int32, ((-2) ≤ y0.toInt) ∧ (y0.toInt ≤ 159) ∧ v = some (.int y0) ∧ w' = wX q d I A) 0 0 := by
  refine GM.of (cc := cX1_windowOfRank) (maxL := 3) (ret := (some .int)) (own := RX1) (lv := [(0, .ref (q 43)), (1, .int z1)]) (by decide) rfl rfl (Nat.le_of_ble_eq_true rfl) rfl (fun κ sz hk hR hN => ?_)
  have hin1 : ∀ w ∈ u_ws RX1 TX1 11, w ∈ wz_k286_X1_windowOfRank := fun w h => (List.mem_cons_of_mem _ (List.mem_append_right _ (List.mem_append_left _ h)))
  refine g_iconst (v := 0) hk dX1_windowOfRank_0 (by decide) ?_
  refine g_istore_n (lv' := [(2, .int 0), (0, .ref (q 43)), (1, .int z1)]) hk dX1_windowOfRank_1 (by decide) rfl ?_
  have lp8165 : ∀ (n8166 : Nat) (x8125 : Int32), (0 ≤ x8125.toInt) → (x8125.toInt ≤ 160) → (161 - x8125.toInt < (n8166 : Int)) → (0 < n8166) → GW κ 3 0 0 (wX q d I A) 2 [(2, .int x8125), (0, .ref (q 43)), (1, .int z1)] [] := by
    intro n8166
    induction n8166 with
    | zero =>
      intro x8125 h8163 h8164 m8167 m8167z
      exact absurd m8167z (Nat.lt_irrefl 0)
    | succ n8166 ih =>
      intro x8125 h8163 h8164 m8167 m8167z
      refine g_iload_n hk dX1_windowOfRank_2 rfl ?_
      refine g_sipush (v := 160) hk dX1_windowOfRank_3 (by decide) ?_
      refine g_icmp_ge (tgt := 35) (a := x8125.toInt) (b := 160) hk dX1_windowOfRank_6 (by decide) rfl rfl (fun c8168 => ?_) (fun c8168 => ?_)
      · skip
        refine g_bipush (v := (-2)) hk dX1_windowOfRank_35 (by decide) ?_
        exact g_iret hk hR rfl ⟨(-2), (by decide), (by decide), rfl, rfl⟩ dX1_windowOfRank_37
      · skip
        refine g_aload_n hk dX1_windowOfRank_9 rfl ?_
        refine gX_r43_6 hk hin1 (List.mem_cons_of_mem _ (List.mem_append_left _ (List.mem_of_getElem? (i := 0) rfl))) dX1_windowOfRank_10 ?_
        refine g_iload_n hk dX1_windowOfRank_13 rfl ?_
        refine lX_26 (v := (A 26 x8125.toNatClampNeg)) hk (vp_in_iff.mpr ⟨by omega, by omega⟩) rfl dX1_windowOfRank_14 ?_
        have b8169l := Int32.le_toInt (A 26 x8125.toNatClampNeg)
        have b8169h := Int32.toInt_lt (A 26 x8125.toNatClampNeg)
        refine g_if_lt (tgt := 29) (a := (A 26 x8125.toNatClampNeg).toInt) hk dX1_windowOfRank_15 (by decide) rfl (fun c8170 => ?_) (fun c8170 => ?_)
        · skip
          obtain ⟨y8171, ey8171⟩ : ∃ y : Int32, y = x8125 + Int32.ofInt 1 := ⟨_, rfl⟩
          have hy8171 : y8171.toInt = x8125.toInt + 1 := i32_add ey8171 rfl (by decide) (by omega) (by omega)
          refine g_iinc (v := y8171) (lv' := [(2, .int y8171), (0, .ref (q 43)), (1, .int z1)]) hk 0 dX1_windowOfRank_29 rfl ey8171.symm (by decide) rfl ?_
          refine g_goto (tgt := 2) hk dX1_windowOfRank_32 (by decide) ?_
          exact g_lv (List.forall_mem_cons.mpr ⟨List.mem_of_getElem? (i := 0) rfl, (List.forall_mem_cons.mpr ⟨List.mem_of_getElem? (i := 1) rfl, (List.forall_mem_cons.mpr ⟨List.mem_of_getElem? (i := 2) rfl, (fun _ h => absurd h List.not_mem_nil)⟩)⟩)⟩) (ih y8171 (by omega) (by omega) (by omega) (by omega))
        · skip
          refine g_aload_n hk dX1_windowOfRank_18 rfl ?_
          refine g_iload_n hk dX1_windowOfRank_19 rfl ?_
          refine g_callV (n := 1) hk (k283_X1_rankOf l D zt q d I A x8125 hIv) (SP.same _) (fun _ h => h) (gi_V (List.mem_cons_of_mem _ (List.mem_append_left _ (List.mem_of_getElem? (i := 1) rfl))) (List.mem_cons_of_mem _ (List.mem_append_left _ (List.mem_of_getElem? (i := 2) rfl))) (List.mem_cons_of_mem _ (List.mem_append_left _ (List.mem_of_getElem? (i := 3) rfl))) (List.mem_cons_of_mem _ (List.mem_append_left _ (List.mem_of_getElem? (i := 4) rfl))) (gi_sub (fun w h => (List.mem_cons_of_mem _ (List.mem_append_right _ (List.mem_append_right _ (List.mem_append_left _ h))))) zg_k283_X1_rankOf)) rfl rfl rfl (by decide +kernel) ⟨Nat.le_of_ble_eq_true rfl, Nat.le_of_ble_eq_true rfl⟩ 43 rfl rfl rfl rfl (Nat.le_of_ble_eq_true rfl) ⟨Nat.le_of_ble_eq_true rfl, Nat.le_of_ble_eq_true rfl⟩ dX1_windowOfRank_20 (fun v ty' w' hp hk' => ?_)
          obtain ⟨y8172, rfl, rfl⟩ := hp
          show GW κ 3 0 0 (wX q d I A) 23 [(2, .int x8125), (0, .ref (q 43)), (1, .int z1)] [.int y8172]
          refine g_iload_n hk dX1_windowOfRank_23 rfl ?_
          have b8173l := Int32.le_toInt y8172
          have b8173h := Int32.toInt_lt y8172
          have b8174l := Int32.le_toInt z1
          have b8174h := Int32.toInt_lt z1
          refine g_icmp_ne (tgt := 29) (a := y8172.toInt) (b := z1.toInt) hk dX1_windowOfRank_24 (by decide) rfl rfl (fun c8175 => ?_) (fun c8175 => ?_)
          · skip
            obtain ⟨y8176, ey8176⟩ : ∃ y : Int32, y = x8125 + Int32.ofInt 1 := ⟨_, rfl⟩
            have hy8176 : y8176.toInt = x8125.toInt + 1 := i32_add ey8176 rfl (by decide) (by omega) (by omega)
            refine g_iinc (v := y8176) (lv' := [(2, .int y8176), (0, .ref (q 43)), (1, .int z1)]) hk 0 dX1_windowOfRank_29 rfl ey8176.symm (by decide) rfl ?_
            refine g_goto (tgt := 2) hk dX1_windowOfRank_32 (by decide) ?_
            exact g_lv (List.forall_mem_cons.mpr ⟨List.mem_of_getElem? (i := 0) rfl, (List.forall_mem_cons.mpr ⟨List.mem_of_getElem? (i := 1) rfl, (List.forall_mem_cons.mpr ⟨List.mem_of_getElem? (i := 2) rfl, (fun _ h => absurd h List.not_mem_nil)⟩)⟩)⟩) (ih y8176 (by omega) (by omega) (by omega) (by omega))
          · skip
            refine g_iload_n hk dX1_windowOfRank_27 rfl ?_
            exact g_iret hk hR rfl ⟨x8125, (by omega), (by omega), rfl, rfl⟩ dX1_windowOfRank_28
  have k8178 : (0 : Int32).toInt = 0 := rfl
  obtain ⟨n8177, n8177a, n8177b⟩ : ∃ n : Nat, 161 - 0 < (n : Int) ∧ 0 < n := ⟨((161 - 0 : Int)).toNat + 1, by omega, by omega⟩
  exact lp8165 n8177 0 (by omega) (by omega) n8177a n8177b
def wo_k285_X11_kth : List Cond := [Cond.fieldLink RX11 35 "WarpDesk" "queries" "LWarpDesk$Queries;", Cond.methodLink RX11 251 yX4_has, Cond.instanceMethod yX4_has, Cond.selects RX4 yX4_has yX4_has, Cond.initialized RX4, Cond.fieldLink RX11 74 "WarpDesk" "finder" "LWarpDesk$Finder;", Cond.methodLink RX11 305 yX1_scan, Cond.instanceMethod yX1_scan, Cond.selects RX1 yX1_scan yX1_scan, Cond.initialized RX1, Cond.methodLink RX11 311 yX1_windowOfRank, Cond.instanceMethod yX1_windowOfRank, Cond.selects RX1 yX1_windowOfRank yX1_windowOfRank, Cond.methodLink RX11 314 yX1_scannedDistance, Cond.instanceMethod yX1_scannedDistance, Cond.selects RX1 yX1_scannedDistance yX1_scannedDistance]
def wz_k285_X11_kth : List Cond := .code yX11_kth cX11_kth 5 (some .int) :: (wo_k285_X11_kth ++ (wsX110 ++ (wz_k168_X4_has ++ (wz_k270_X1_scan ++ (wz_k286_X1_windowOfRank ++ (wz_k284_X1_scannedDistance ++ ([] : List Cond)))))))
theorem zg_k285_X11_kth : ∀ w ∈ wz_k285_X11_kth, goodWord w = true := zg_cons rfl (zg_app (by decide +kernel) (zg_app zgU_wsX110 (zg_app zg_k168_X4_has (zg_app zg_k270_X1_scan (zg_app zg_k286_X1_windowOfRank (zg_app zg_k284_X1_scannedDistance zg_nil))))))
theorem zi_k285_X11_kth : ∀ w ∈ wz_k285_X11_kth, w ∈ lw_tbl := zi_cons zw_1220 (zi_app (zi_cons zw_490 (zi_cons zw_1086 (zi_cons zw_747 (zi_cons zw_748 (zi_cons zw_108 (zi_cons zw_495 (zi_cons zw_1208 (zi_cons zw_1152 (zi_cons zw_1153 (zi_cons zw_113 (zi_cons zw_1221 (zi_cons zw_1222 (zi_cons zw_1223 (zi_cons zw_1226 (zi_cons zw_1214 (zi_cons zw_1215 zi_nil)))))))))))))))) (zi_app inX11 (zi_app zi_k168_X4_has (zi_app zi_k270_X1_scan (zi_app zi_k286_X1_windowOfRank (zi_app zi_k284_X1_scannedDistance zi_nil))))))
set_option maxHeartbeats 4000000 in
set_option maxRecDepth 100000 in
theorem k285_X11_kth (l : Launch) (D : va_G) (zt : Nat × Nat × Nat × (Nat → Nat) × (Nat → Nat)) (q : Nat → Nat) (d : Nat → ClassId) (I : Nat → Int32) (A : Nat → Nat → Int32) (z1 : Int32) (z2 : Int32) (z3 : Int32) (hIv : IvX I A) : GM l D zt (tyX d) yX11_kth wz_k285_X11_kth ({ frames := 6, cells := 0, slots := 0, locals := 131 } : Room) [.ref (q 0), .int z1, .int z2, .int z3] (wX q d I A) (fun v _ w' => ∃ (I' : Nat → Int32) (A' : Nat → Nat → Int32), Md [28, 30, 31, 32, 33, 34] I I' ∧ Md [21, 22, 23, 26] A A' ∧ IvX I' A' ∧ ∃ y0 : Int32, v = some (.int y0) ∧ w' = wX q d I' A') 0 0 := by
  refine GM.of (cc := cX11_kth) (maxL := 5) (ret := (some .int)) (own := RX11) (lv := [(0, .ref (q 0)), (1, .int z1), (2, .int z2), (3, .int z3)]) (by decide) rfl rfl (Nat.le_of_ble_eq_true rfl) rfl (fun κ sz hk hR hN => ?_)
  have hin11 : ∀ w ∈ u_ws RX11 TX11 10, w ∈ wz_k285_X11_kth := fun w h => (List.mem_cons_of_mem _ (List.mem_append_right _ (List.mem_append_left _ h)))
  refine g_iload_n hk dX11_kth_0 rfl ?_
  have b8112l := Int32.le_toInt z2
  have b8112h := Int32.toInt_lt z2
  refine g_if_lt (tgt := 24) (a := z2.toInt) hk dX11_kth_1 (by decide) rfl (fun c8113 => ?_) (fun c8113 => ?_)
  · skip
    refine g_iconst (v := (-1)) hk dX11_kth_24 (by decide) ?_
    exact g_iret hk hR rfl ⟨I, A, (show Md [28, 30, 31, 32, 33, 34] I I from Md.rf), (show Md [21, 22, 23, 26] A A from Md.rf), hIv, (-1), rfl, rfl⟩ dX11_kth_25
  · skip
    refine g_iload_n hk dX11_kth_4 rfl ?_
    have b8114l := Int32.le_toInt z3
    have b8114h := Int32.toInt_lt z3
    refine g_if_lt (tgt := 24) (a := z3.toInt) hk dX11_kth_5 (by decide) rfl (fun c8115 => ?_) (fun c8115 => ?_)
    · skip
      refine g_iconst (v := (-1)) hk dX11_kth_24 (by decide) ?_
      exact g_iret hk hR rfl ⟨I, A, (show Md [28, 30, 31, 32, 33, 34] I I from Md.rf), (show Md [21, 22, 23, 26] A A from Md.rf), hIv, (-1), rfl, rfl⟩ dX11_kth_25
    · skip
      refine g_iload_n hk dX11_kth_8 rfl ?_
      refine g_iconst (v := 1) hk dX11_kth_9 (by decide) ?_
      refine g_icmp_gt (tgt := 24) (a := z3.toInt) (b := 1) hk dX11_kth_10 (by decide) rfl rfl (fun c8116 => ?_) (fun c8116 => ?_)
      · skip
        refine g_iconst (v := (-1)) hk dX11_kth_24 (by decide) ?_
        exact g_iret hk hR rfl ⟨I, A, (show Md [28, 30, 31, 32, 33, 34] I I from Md.rf), (show Md [21, 22, 23, 26] A A from Md.rf), hIv, (-1), rfl, rfl⟩ dX11_kth_25
      · skip
        refine g_aload_n hk dX11_kth_13 rfl ?_
        refine gX_r0_3 hk hin11 (List.mem_cons_of_mem _ (List.mem_append_left _ (List.mem_of_getElem? (i := 0) rfl))) dX11_kth_14 ?_
        refine g_iload_n hk dX11_kth_17 rfl ?_
        refine g_callV (n := 1) hk (k168_X4_has l D zt q d I A z1 hIv) (SP.same _) (fun _ h => h) (gi_V (List.mem_cons_of_mem _ (List.mem_append_left _ (List.mem_of_getElem? (i := 1) rfl))) (List.mem_cons_of_mem _ (List.mem_append_left _ (List.mem_of_getElem? (i := 2) rfl))) (List.mem_cons_of_mem _ (List.mem_append_left _ (List.mem_of_getElem? (i := 3) rfl))) (List.mem_cons_of_mem _ (List.mem_append_left _ (List.mem_of_getElem? (i := 4) rfl))) (gi_sub (fun w h => (List.mem_cons_of_mem _ (List.mem_append_right _ (List.mem_append_right _ (List.mem_append_left _ h))))) zg_k168_X4_has)) rfl rfl rfl (by decide +kernel) ⟨Nat.le_of_ble_eq_true rfl, Nat.le_of_ble_eq_true rfl⟩ 15 rfl rfl rfl rfl (Nat.le_of_ble_eq_true rfl) ⟨Nat.le_of_ble_eq_true rfl, Nat.le_of_ble_eq_true rfl⟩ dX11_kth_18 (fun v ty' w' hp hk' => ?_)
        rcases hp with ⟨rfl, rfl⟩ | ⟨c8118, c8119, c8120, c8121, rfl, rfl⟩
        · skip
          show GW κ 5 0 0 (wX q d I A) 21 [(0, .ref (q 0)), (1, .int z1), (2, .int z2), (3, .int z3)] [.int 0]
          refine g_if_ne (tgt := 26) (a := 0) hk dX11_kth_21 (by decide) rfl (fun z9 => absurd z9 (show ¬ ((0 : Int) ≠ (0 : Int)) from by decide)) (fun _ => ?_)
          refine g_iconst (v := (-1)) hk dX11_kth_24 (by decide) ?_
          exact g_iret hk hR rfl ⟨I, A, (show Md [28, 30, 31, 32, 33, 34] I I from Md.rf), (show Md [21, 22, 23, 26] A A from Md.rf), hIv, (-1), rfl, rfl⟩ dX11_kth_25
        · skip
          show GW κ 5 0 0 (wX q d I A) 21 [(0, .ref (q 0)), (1, .int z1), (2, .int z2), (3, .int z3)] [.int 1]
          refine g_if_ne (tgt := 26) (a := 1) hk dX11_kth_21 (by decide) rfl (fun _ => ?_) (fun z9 => absurd (show (1 : Int) ≠ (0 : Int) from by decide) z9)
          refine g_aload_n hk dX11_kth_26 rfl ?_
          refine gX_r0_8 hk hin11 (List.mem_cons_of_mem _ (List.mem_append_left _ (List.mem_of_getElem? (i := 5) rfl))) dX11_kth_27 ?_
          refine g_iload_n hk dX11_kth_30 rfl ?_
          refine g_callV (n := 1) hk (k270_X1_scan l D zt q d I A z1 hIv) (SP.same _) (fun _ h => h) (gi_V (List.mem_cons_of_mem _ (List.mem_append_left _ (List.mem_of_getElem? (i := 6) rfl))) (List.mem_cons_of_mem _ (List.mem_append_left _ (List.mem_of_getElem? (i := 7) rfl))) (List.mem_cons_of_mem _ (List.mem_append_left _ (List.mem_of_getElem? (i := 8) rfl))) (List.mem_cons_of_mem _ (List.mem_append_left _ (List.mem_of_getElem? (i := 9) rfl))) (gi_sub (fun w h => (List.mem_cons_of_mem _ (List.mem_append_right _ (List.mem_append_right _ (List.mem_append_right _ (List.mem_append_left _ h)))))) zg_k270_X1_scan)) rfl rfl rfl (by decide +kernel) ⟨Nat.le_of_ble_eq_true rfl, Nat.le_of_ble_eq_true rfl⟩ 43 rfl rfl rfl rfl (Nat.le_of_ble_eq_true rfl) ⟨Nat.le_of_ble_eq_true rfl, Nat.le_of_ble_eq_true rfl⟩ dX11_kth_31 (fun v ty' w' hp hk' => ?_)
          obtain ⟨I8124, A8124, hI8124, hA8124, hV8124, rfl, rfl⟩ := hp
          show GW κ 5 0 0 (wX q d I8124 A8124) 34 [(0, .ref (q 0)), (1, .int z1), (2, .int z2), (3, .int z3)] []
          refine g_aload_n hk dX11_kth_34 rfl ?_
          refine gX_r0_8 hk hin11 (List.mem_cons_of_mem _ (List.mem_append_left _ (List.mem_of_getElem? (i := 5) rfl))) dX11_kth_35 ?_
          refine g_iload_n hk dX11_kth_38 rfl ?_
          refine g_callV (n := 1) hk (k286_X1_windowOfRank l D zt q d I8124 A8124 z2 hV8124) (SP.same _) (fun _ h => h) (gi_V (List.mem_cons_of_mem _ (List.mem_append_left _ (List.mem_of_getElem? (i := 10) rfl))) (List.mem_cons_of_mem _ (List.mem_append_left _ (List.mem_of_getElem? (i := 11) rfl))) (List.mem_cons_of_mem _ (List.mem_append_left _ (List.mem_of_getElem? (i := 12) rfl))) (List.mem_cons_of_mem _ (List.mem_append_left _ (List.mem_of_getElem? (i := 9) rfl))) (gi_sub (fun w h => (List.mem_cons_of_mem _ (List.mem_append_right _ (List.mem_append_right _ (List.mem_append_right _ (List.mem_append_right _ (List.mem_append_left _ h))))))) zg_k286_X1_windowOfRank)) rfl rfl rfl (by decide +kernel) ⟨Nat.le_of_ble_eq_true rfl, Nat.le_of_ble_eq_true rfl⟩ 43 rfl rfl rfl rfl (Nat.le_of_ble_eq_true rfl) ⟨Nat.le_of_ble_eq_true rfl, Nat.le_of_ble_eq_true rfl⟩ dX11_kth_39 (fun v ty' w' hp hk' => ?_)
          obtain ⟨y8179, c8180, c8181, rfl, rfl⟩ := hp
          show GW κ 5 0 0 (wX q d I8124 A8124) 42 [(0, .ref (q 0)), (1, .int z1), (2, .int z2), (3, .int z3)] [.int y8179]
          refine g_istore (lv' := [(4, .int y8179), (0, .ref (q 0)), (1, .int z1), (2, .int z2), (3, .int z3)]) hk dX11_kth_42 (by decide) rfl ?_
          refine g_iload_n hk dX11_kth_44 rfl ?_
          refine g_if_ne (tgt := 53) (a := z3.toInt) hk dX11_kth_45 (by decide) rfl (fun c8182 => ?_) (fun c8182 => ?_)
          · skip
            refine g_aload_n hk dX11_kth_53 rfl ?_
            refine gX_r0_8 hk hin11 (List.mem_cons_of_mem _ (List.mem_append_left _ (List.mem_of_getElem? (i := 5) rfl))) dX11_kth_54 ?_
            refine g_iload hk dX11_kth_57 rfl ?_
            refine g_callV (n := 1) hk (k284_X1_scannedDistance l D zt q d I8124 A8124 y8179 hV8124) (SP.same _) (fun _ h => h) (gi_V (List.mem_cons_of_mem _ (List.mem_append_left _ (List.mem_of_getElem? (i := 13) rfl))) (List.mem_cons_of_mem _ (List.mem_append_left _ (List.mem_of_getElem? (i := 14) rfl))) (List.mem_cons_of_mem _ (List.mem_append_left _ (List.mem_of_getElem? (i := 15) rfl))) (List.mem_cons_of_mem _ (List.mem_append_left _ (List.mem_of_getElem? (i := 9) rfl))) (gi_sub (fun w h => (List.mem_cons_of_mem _ (List.mem_append_right _ (List.mem_append_right _ (List.mem_append_right _ (List.mem_append_right _ (List.mem_append_right _ (List.mem_append_left _ h)))))))) zg_k284_X1_scannedDistance)) rfl rfl rfl (by decide +kernel) ⟨Nat.le_of_ble_eq_true rfl, Nat.le_of_ble_eq_true rfl⟩ 43 rfl rfl rfl rfl (Nat.le_of_ble_eq_true rfl) ⟨Nat.le_of_ble_eq_true rfl, Nat.le_of_ble_eq_true rfl⟩ dX11_kth_59 (fun v ty' w' hp hk' => ?_)
            obtain ⟨y8183, rfl, rfl⟩ := hp
            show GW κ 5 0 0 (wX q d I8124 A8124) 62 [(4, .int y8179), (0, .ref (q 0)), (1, .int z1), (2, .int z2), (3, .int z3)] [.int y8183]
            have b8184l := Int32.le_toInt y8183
            have b8184h := Int32.toInt_lt y8183
            exact g_iret hk hR rfl ⟨I8124, A8124, (show Md [28, 30, 31, 32, 33, 34] I I8124 from (Md.tr Md.rf hI8124 rfl)), (show Md [21, 22, 23, 26] A A8124 from (Md.tr Md.rf hA8124 rfl)), hV8124, y8183, rfl, rfl⟩ dX11_kth_62
          · skip
            refine g_iload hk dX11_kth_48 rfl ?_
            refine g_goto (tgt := 62) hk dX11_kth_50 (by decide) ?_
            exact g_iret hk hR rfl ⟨I8124, A8124, (show Md [28, 30, 31, 32, 33, 34] I I8124 from (Md.tr Md.rf hI8124 rfl)), (show Md [21, 22, 23, 26] A A8124 from (Md.tr Md.rf hA8124 rfl)), hV8124, y8179, rfl, rfl⟩ dX11_kth_62
def wo_k288_X1_slackSum : List Cond := [Cond.fieldLink RX1 28 "WarpDesk$Finder" "bench" "LWarpDesk$Bench;", Cond.fieldLink RX1 45 "WarpDesk$Bench" "settings" "LWarpDesk$Settings;", Cond.methodLink RX1 49 yX7_valueOf, Cond.instanceMethod yX7_valueOf, Cond.selects RX7 yX7_valueOf yX7_valueOf, Cond.initialized RX7, Cond.methodLink RX1 55 yX0_openQuery, Cond.instanceMethod yX0_openQuery, Cond.selects RX0 yX0_openQuery yX0_openQuery, Cond.initialized RX0, Cond.fieldLink RX1 38 "WarpDesk$Finder" "series" "LWarpDesk$Series;", Cond.fieldLink RX1 59 "WarpDesk$Series" "size" "I", Cond.fieldLink RX1 43 "WarpDesk$Finder" "queries" "LWarpDesk$Queries;", Cond.methodLink RX1 65 yX4_lengthOf, Cond.instanceMethod yX4_lengthOf, Cond.selects RX4 yX4_lengthOf yX4_lengthOf, Cond.initialized RX4, Cond.methodLink RX1 70 yX6_hasWindow, Cond.instanceMethod yX6_hasWindow, Cond.selects RX6 yX6_hasWindow yX6_hasWindow, Cond.initialized RX6, Cond.methodLink RX1 74 yX0_laySecondWindow, Cond.instanceMethod yX0_laySecondWindow, Cond.selects RX0 yX0_laySecondWindow yX0_laySecondWindow, Cond.fieldLink RX1 78 "WarpDesk$Bench" "fit" "LWarpDesk$Fit;", Cond.methodLink RX1 148 yX2_endsBound, Cond.instanceMethod yX2_endsBound, Cond.selects RX2 yX2_endsBound yX2_endsBound, Cond.initialized RX2, Cond.methodLink RX1 151 yX2_overBound, Cond.instanceMethod yX2_overBound, Cond.selects RX2 yX2_overBound yX2_overBound, Cond.methodLink RX1 154 yX2_backBound, Cond.instanceMethod yX2_backBound, Cond.selects RX2 yX2_backBound yX2_backBound, Cond.methodLink RX1 157 Lib.Math.max.name, Cond.static Lib.Math.max.name, Cond.initialized "java/lang/Math", Cond.code Lib.Math.max.name Lib.Math.max.code 2 (some .int), Cond.methodLink RX1 113 yX2_wholeDistance, Cond.instanceMethod yX2_wholeDistance, Cond.selects RX2 yX2_wholeDistance yX2_wholeDistance]
def wz_k288_X1_slackSum : List Cond := .code yX1_slackSum cX1_slackSum 6 (some .int) :: (wo_k288_X1_slackSum ++ (wsX00 ++ (wsX10 ++ (wsX60 ++ (wz_k194_X7_valueOf ++ (wz_k224_X0_openQuery ++ (wz_k182_X4_lengthOf ++ (wz_k207_X6_hasWindow ++ (wz_k226_X0_laySecondWindow ++ (wz_k239_X2_endsBound ++ (wz_k240_X2_overBound ++ (wz_k243_X2_backBound ++ (wz_k232_X2_wholeDistance ++ ([] : List Cond))))))))))))))
theorem zg_k288_X1_slackSum : ∀ w ∈ wz_k288_X1_slackSum, goodWord w = true := zg_cons rfl (zg_app (by decide +kernel) (zg_app zgU_wsX00 (zg_app zgU_wsX10 (zg_app zgU_wsX60 (zg_app zg_k194_X7_valueOf (zg_app zg_k224_X0_openQuery (zg_app zg_k182_X4_lengthOf (zg_app zg_k207_X6_hasWindow (zg_app zg_k226_X0_laySecondWindow (zg_app zg_k239_X2_endsBound (zg_app zg_k240_X2_overBound (zg_app zg_k243_X2_backBound (zg_app zg_k232_X2_wholeDistance zg_nil)))))))))))))
theorem zi_k288_X1_slackSum : ∀ w ∈ wz_k288_X1_slackSum, w ∈ lw_tbl := zi_cons zw_1234 (zi_app (zi_cons zw_402 (zi_cons zw_379 (zi_cons zw_1137 (zi_cons zw_786 (zi_cons zw_787 (zi_cons zw_107 (zi_cons zw_1121 (zi_cons zw_981 (zi_cons zw_982 (zi_cons zw_111 (zi_cons zw_403 (zi_cons zw_283 (zi_cons zw_404 (zi_cons zw_1102 (zi_cons zw_757 (zi_cons zw_758 (zi_cons zw_108 (zi_cons zw_1122 (zi_cons zw_902 (zi_cons zw_903 (zi_cons zw_109 (zi_cons zw_1123 (zi_cons zw_989 (zi_cons zw_990 (zi_cons zw_382 (zi_cons zw_1235 (zi_cons zw_1022 (zi_cons zw_1023 (zi_cons zw_112 (zi_cons zw_1236 (zi_cons zw_1026 (zi_cons zw_1027 (zi_cons zw_1237 (zi_cons zw_1038 (zi_cons zw_1039 (zi_cons zw_1238 (zi_cons zw_920 (zi_cons zw_120 (zi_cons zw_921 (zi_cons zw_1104 (zi_cons zw_993 (zi_cons zw_994 zi_nil)))))))))))))))))))))))))))))))))))))))))) (zi_app inX0 (zi_app inX1 (zi_app inX6 (zi_app zi_k194_X7_valueOf (zi_app zi_k224_X0_openQuery (zi_app zi_k182_X4_lengthOf (zi_app zi_k207_X6_hasWindow (zi_app zi_k226_X0_laySecondWindow (zi_app zi_k239_X2_endsBound (zi_app zi_k240_X2_overBound (zi_app zi_k243_X2_backBound (zi_app zi_k232_X2_wholeDistance zi_nil)))))))))))))
set_option maxHeartbeats 4000000 in
set_option maxRecDepth 100000 in
theorem k288_X1_slackSum (l : Launch) (D : va_G) (zt : Nat × Nat × Nat × (Nat → Nat) × (Nat → Nat)) (q : Nat → Nat) (d : Nat → ClassId) (I : Nat → Int32) (A : Nat → Nat → Int32) (z1 : Int32) (hIv : IvX I A) : GM l D zt (tyX d) yX1_slackSum wz_k288_X1_slackSum ({ frames := 5, cells := 0, slots := 0, locals := 109 } : Room) [.ref (q 43), .int z1] (wX q d I A) (fun v _ w' => ∃ (I' : Nat → Int32) (A' : Nat → Nat → Int32), Md [28, 30, 31, 32, 33, 34] I I' ∧ Md [21, 22, 23] A A' ∧ IvX I' A' ∧ ∃ y0 : Int32, v = some (.int y0) ∧ w' = wX q d I' A') 0 0 := by
  refine GM.of (cc := cX1_slackSum) (maxL := 6) (ret := (some .int)) (own := RX1) (lv := [(0, .ref (q 43)), (1, .int z1)]) (by decide) rfl rfl (Nat.le_of_ble_eq_true rfl) rfl (fun κ sz hk hR hN => ?_)
  have hin0 : ∀ w ∈ u_ws RX0 TX0 5, w ∈ wz_k288_X1_slackSum := fun w h => (List.mem_cons_of_mem _ (List.mem_append_right _ (List.mem_append_left _ h)))
  have hin1 : ∀ w ∈ u_ws RX1 TX1 11, w ∈ wz_k288_X1_slackSum := fun w h => (List.mem_cons_of_mem _ (List.mem_append_right _ (List.mem_append_right _ (List.mem_append_left _ h))))
  have hin6 : ∀ w ∈ u_ws RX6 TX6 3, w ∈ wz_k288_X1_slackSum := fun w h => (List.mem_cons_of_mem _ (List.mem_append_right _ (List.mem_append_right _ (List.mem_append_right _ (List.mem_append_left _ h)))))
  refine g_iconst (v := 0) hk dX1_slackSum_0 (by decide) ?_
  refine g_istore_n (lv' := [(2, .int 0), (0, .ref (q 43)), (1, .int z1)]) hk dX1_slackSum_1 (by decide) rfl ?_
  refine g_aload_n hk dX1_slackSum_2 rfl ?_
  refine gX_r43_0 hk hin1 (List.mem_cons_of_mem _ (List.mem_append_left _ (List.mem_of_getElem? (i := 0) rfl))) dX1_slackSum_3 ?_
  refine g_iload_n hk dX1_slackSum_6 rfl ?_
  refine g_aload_n hk dX1_slackSum_7 rfl ?_
  refine gX_r43_0 hk hin1 (List.mem_cons_of_mem _ (List.mem_append_left _ (List.mem_of_getElem? (i := 0) rfl))) dX1_slackSum_8 ?_
  refine gX_r37_2 hk hin0 (List.mem_cons_of_mem _ (List.mem_append_left _ (List.mem_of_getElem? (i := 1) rfl))) dX1_slackSum_11 ?_
  refine g_iconst (v := 0) hk dX1_slackSum_14 (by decide) ?_
  have k8191 : (0 : Int32).toInt = 0 := rfl
  refine g_callV (n := 1) hk (k194_X7_valueOf l D zt q d I A 0 hIv) (SP.same _) (fun _ h => h) (gi_V (List.mem_cons_of_mem _ (List.mem_append_left _ (List.mem_of_getElem? (i := 2) rfl))) (List.mem_cons_of_mem _ (List.mem_append_left _ (List.mem_of_getElem? (i := 3) rfl))) (List.mem_cons_of_mem _ (List.mem_append_left _ (List.mem_of_getElem? (i := 4) rfl))) (List.mem_cons_of_mem _ (List.mem_append_left _ (List.mem_of_getElem? (i := 5) rfl))) (gi_sub (fun w h => (List.mem_cons_of_mem _ (List.mem_append_right _ (List.mem_append_right _ (List.mem_append_right _ (List.mem_append_right _ (List.mem_append_left _ h))))))) zg_k194_X7_valueOf)) rfl rfl rfl (by decide +kernel) ⟨Nat.le_of_ble_eq_true rfl, Nat.le_of_ble_eq_true rfl⟩ 18 rfl rfl rfl rfl (Nat.le_of_ble_eq_true rfl) ⟨Nat.le_of_ble_eq_true rfl, Nat.le_of_ble_eq_true rfl⟩ dX1_slackSum_15 (fun v ty' w' hp hk' => ?_)
  obtain ⟨y8192, rfl, rfl⟩ := hp
  show GW κ 6 0 0 (wX q d I A) 18 [(2, .int 0), (0, .ref (q 43)), (1, .int z1)] [.int y8192, .int z1, .ref (q 37)]
  refine g_callV (n := 2) hk (k224_X0_openQuery l D zt q d I A z1 y8192 hIv) (SP.same _) (fun _ h => h) (gi_V (List.mem_cons_of_mem _ (List.mem_append_left _ (List.mem_of_getElem? (i := 6) rfl))) (List.mem_cons_of_mem _ (List.mem_append_left _ (List.mem_of_getElem? (i := 7) rfl))) (List.mem_cons_of_mem _ (List.mem_append_left _ (List.mem_of_getElem? (i := 8) rfl))) (List.mem_cons_of_mem _ (List.mem_append_left _ (List.mem_of_getElem? (i := 9) rfl))) (gi_sub (fun w h => (List.mem_cons_of_mem _ (List.mem_append_right _ (List.mem_append_right _ (List.mem_append_right _ (List.mem_append_right _ (List.mem_append_right _ (List.mem_append_left _ h)))))))) zg_k224_X0_openQuery)) rfl rfl rfl (by decide +kernel) ⟨Nat.le_of_ble_eq_true rfl, Nat.le_of_ble_eq_true rfl⟩ 37 rfl rfl rfl rfl (Nat.le_of_ble_eq_true rfl) ⟨Nat.le_of_ble_eq_true rfl, Nat.le_of_ble_eq_true rfl⟩ dX1_slackSum_18 (fun v ty' w' hp hk' => ?_)
  obtain ⟨I8194, A8194, hI8194, hA8194, hV8194, rfl, rfl⟩ := hp
  show GW κ 6 0 0 (wX q d I8194 A8194) 21 [(2, .int 0), (0, .ref (q 43)), (1, .int z1)] []
  refine g_iconst (v := 0) hk dX1_slackSum_21 (by decide) ?_
  refine g_istore_n (lv' := [(3, .int 0), (2, .int 0), (0, .ref (q 43)), (1, .int z1)]) hk dX1_slackSum_22 (by decide) rfl ?_
  have lp8477 : ∀ (n8478 : Nat) (x8195 : Int32) (x8196 : Int32) (I8199 : Nat → Int32) (A8199 : Nat → Nat → Int32), (Md [33, 34] I8194 I8199) → (Md [22, 23] A8194 A8199) → (IvX I8199 A8199) → (0 ≤ x8195.toInt) → (x8195.toInt ≤ 160) → (161 - x8195.toInt < (n8478 : Int)) → (0 < n8478) → GW κ 6 0 0 (wX q d I8199 A8199) 23 [(3, .int x8195), (2, .int x8196), (0, .ref (q 43)), (1, .int z1)] [] := by
    intro n8478
    induction n8478 with
    | zero =>
      intro x8195 x8196 I8199 A8199 hI8199 hA8199 hV8199 h8475 h8476 m8479 m8479z
      exact absurd m8479z (Nat.lt_irrefl 0)
    | succ n8478 ih =>
      intro x8195 x8196 I8199 A8199 hI8199 hA8199 hV8199 h8475 h8476 m8479 m8479z
      refine g_iload_n hk dX1_slackSum_23 rfl ?_
      refine g_aload_n hk dX1_slackSum_24 rfl ?_
      refine gX_r43_1 hk hin1 (List.mem_cons_of_mem _ (List.mem_append_left _ (List.mem_of_getElem? (i := 10) rfl))) dX1_slackSum_25 ?_
      refine gX_i18 (v := (I 18)) hk hin6 (List.mem_cons_of_mem _ (List.mem_append_left _ (List.mem_of_getElem? (i := 11) rfl))) dX1_slackSum_28 ((hI8199 18 rfl).trans (hI8194 18 rfl)) ?_
      have f8480 := IvX_f18 hIv
      refine g_icmp_ge (tgt := 110) (a := x8195.toInt) (b := (I 18).toInt) hk dX1_slackSum_31 (by decide) rfl rfl (fun c8481 => ?_) (fun c8481 => ?_)
      · skip
        refine g_iload_n hk dX1_slackSum_110 rfl ?_
        have b8482l := Int32.le_toInt x8196
        have b8482h := Int32.toInt_lt x8196
        exact g_iret hk hR rfl ⟨I8199, A8199, (show Md [28, 30, 31, 32, 33, 34] I I8199 from (Md.tr (Md.tr Md.rf hI8194 rfl) hI8199 rfl)), (show Md [21, 22, 23] A A8199 from (Md.tr (Md.tr Md.rf hA8194 rfl) hA8199 rfl)), hV8199, x8196, rfl, rfl⟩ dX1_slackSum_111
      · skip
        refine g_aload_n hk dX1_slackSum_34 rfl ?_
        refine gX_r43_1 hk hin1 (List.mem_cons_of_mem _ (List.mem_append_left _ (List.mem_of_getElem? (i := 10) rfl))) dX1_slackSum_35 ?_
        refine g_iload_n hk dX1_slackSum_38 rfl ?_
        refine g_aload_n hk dX1_slackSum_39 rfl ?_
        refine gX_r43_2 hk hin1 (List.mem_cons_of_mem _ (List.mem_append_left _ (List.mem_of_getElem? (i := 12) rfl))) dX1_slackSum_40 ?_
        refine g_iload_n hk dX1_slackSum_43 rfl ?_
        refine g_callV (n := 1) hk (k182_X4_lengthOf l D zt q d I8199 A8199 z1 hV8199) (SP.same _) (fun _ h => h) (gi_V (List.mem_cons_of_mem _ (List.mem_append_left _ (List.mem_of_getElem? (i := 13) rfl))) (List.mem_cons_of_mem _ (List.mem_append_left _ (List.mem_of_getElem? (i := 14) rfl))) (List.mem_cons_of_mem _ (List.mem_append_left _ (List.mem_of_getElem? (i := 15) rfl))) (List.mem_cons_of_mem _ (List.mem_append_left _ (List.mem_of_getElem? (i := 16) rfl))) (gi_sub (fun w h => (List.mem_cons_of_mem _ (List.mem_append_right _ (List.mem_append_right _ (List.mem_append_right _ (List.mem_append_right _ (List.mem_append_right _ (List.mem_append_right _ (List.mem_append_left _ h))))))))) zg_k182_X4_lengthOf)) rfl rfl rfl (by decide +kernel) ⟨Nat.le_of_ble_eq_true rfl, Nat.le_of_ble_eq_true rfl⟩ 15 rfl rfl rfl rfl (Nat.le_of_ble_eq_true rfl) ⟨Nat.le_of_ble_eq_true rfl, Nat.le_of_ble_eq_true rfl⟩ dX1_slackSum_44 (fun v ty' w' hp hk' => ?_)
        rcases hp with ⟨rfl, rfl⟩ | ⟨y8490, c8484, c8485, c8486, c8487, c8488, c8489, c8491, c8492, rfl, rfl⟩
        · skip
          show GW κ 6 0 0 (wX q d I8199 A8199) 47 [(3, .int x8195), (2, .int x8196), (0, .ref (q 43)), (1, .int z1)] [.int 0, .int x8195, .ref (q 13)]
          refine g_callV (n := 2) hk (k207_X6_hasWindow l D zt q d I8199 A8199 x8195 0 hV8199) (SP.same _) (fun _ h => h) (gi_V (List.mem_cons_of_mem _ (List.mem_append_left _ (List.mem_of_getElem? (i := 17) rfl))) (List.mem_cons_of_mem _ (List.mem_append_left _ (List.mem_of_getElem? (i := 18) rfl))) (List.mem_cons_of_mem _ (List.mem_append_left _ (List.mem_of_getElem? (i := 19) rfl))) (List.mem_cons_of_mem _ (List.mem_append_left _ (List.mem_of_getElem? (i := 20) rfl))) (gi_sub (fun w h => (List.mem_cons_of_mem _ (List.mem_append_right _ (List.mem_append_right _ (List.mem_append_right _ (List.mem_append_right _ (List.mem_append_right _ (List.mem_append_right _ (List.mem_append_right _ (List.mem_append_left _ h)))))))))) zg_k207_X6_hasWindow)) rfl rfl rfl (by decide +kernel) ⟨Nat.le_of_ble_eq_true rfl, Nat.le_of_ble_eq_true rfl⟩ 13 rfl rfl rfl rfl (Nat.le_of_ble_eq_true rfl) ⟨Nat.le_of_ble_eq_true rfl, Nat.le_of_ble_eq_true rfl⟩ dX1_slackSum_47 (fun v ty' w' hp hk' => ?_)
          rcases hp with ⟨rfl, rfl⟩ | ⟨c8494, c8495, c8496, c8497, c8498, c8499, rfl, rfl⟩
          · skip
            show GW κ 6 0 0 (wX q d I8199 A8199) 50 [(3, .int x8195), (2, .int x8196), (0, .ref (q 43)), (1, .int z1)] [.int 0]
            refine g_if_eq (tgt := 104) (a := 0) hk dX1_slackSum_50 (by decide) rfl (fun _ => ?_) (fun z9 => absurd (show (0 : Int) = (0 : Int) from by decide) z9)
            obtain ⟨y8501, ey8501⟩ : ∃ y : Int32, y = x8195 + Int32.ofInt 1 := ⟨_, rfl⟩
            have hy8501 : y8501.toInt = x8195.toInt + 1 := i32_add ey8501 rfl (by decide) (by omega) (by omega)
            refine g_iinc (v := y8501) (lv' := [(3, .int y8501), (2, .int x8196), (0, .ref (q 43)), (1, .int z1)]) hk 0 dX1_slackSum_104 rfl ey8501.symm (by decide) rfl ?_
            refine g_goto (tgt := 23) hk dX1_slackSum_107 (by decide) ?_
            exact g_lv (List.forall_mem_cons.mpr ⟨List.mem_of_getElem? (i := 0) rfl, (List.forall_mem_cons.mpr ⟨List.mem_of_getElem? (i := 1) rfl, (List.forall_mem_cons.mpr ⟨List.mem_of_getElem? (i := 2) rfl, (List.forall_mem_cons.mpr ⟨List.mem_of_getElem? (i := 3) rfl, (fun _ h => absurd h List.not_mem_nil)⟩)⟩)⟩)⟩) (ih y8501 x8196 I8199 A8199 (show Md [33, 34] I8194 I8199 from Md.tr hI8199 (show Md [33, 34] I8199 I8199 from Md.rf) rfl) (show Md [22, 23] A8194 A8199 from Md.tr hA8199 (show Md [22, 23] A8199 A8199 from Md.rf) rfl) hV8199 (by omega) (by omega) (by omega) (by omega))
          · skip
            show GW κ 6 0 0 (wX q d I8199 A8199) 50 [(3, .int x8195), (2, .int x8196), (0, .ref (q 43)), (1, .int z1)] [.int 1]
            refine g_if_eq (tgt := 104) (a := 1) hk dX1_slackSum_50 (by decide) rfl (fun z9 => absurd z9 (show ¬ ((1 : Int) = (0 : Int)) from by decide)) (fun _ => ?_)
            refine g_aload_n hk dX1_slackSum_53 rfl ?_
            refine gX_r43_0 hk hin1 (List.mem_cons_of_mem _ (List.mem_append_left _ (List.mem_of_getElem? (i := 0) rfl))) dX1_slackSum_54 ?_
            refine g_iload_n hk dX1_slackSum_57 rfl ?_
            refine g_callV (n := 1) hk (k226_X0_laySecondWindow l D zt q d I8199 A8199 x8195 hV8199) (SP.same _) (fun _ h => h) (gi_V (List.mem_cons_of_mem _ (List.mem_append_left _ (List.mem_of_getElem? (i := 21) rfl))) (List.mem_cons_of_mem _ (List.mem_append_left _ (List.mem_of_getElem? (i := 22) rfl))) (List.mem_cons_of_mem _ (List.mem_append_left _ (List.mem_of_getElem? (i := 23) rfl))) (List.mem_cons_of_mem _ (List.mem_append_left _ (List.mem_of_getElem? (i := 9) rfl))) (gi_sub (fun w h => (List.mem_cons_of_mem _ (List.mem_append_right _ (List.mem_append_right _ (List.mem_append_right _ (List.mem_append_right _ (List.mem_append_right _ (List.mem_append_right _ (List.mem_append_right _ (List.mem_append_right _ (List.mem_append_left _ h))))))))))) zg_k226_X0_laySecondWindow)) rfl rfl rfl (by decide +kernel) ⟨Nat.le_of_ble_eq_true rfl, Nat.le_of_ble_eq_true rfl⟩ 37 rfl rfl rfl rfl (Nat.le_of_ble_eq_true rfl) ⟨Nat.le_of_ble_eq_true rfl, Nat.le_of_ble_eq_true rfl⟩ dX1_slackSum_58 (fun v ty' w' hp hk' => ?_)
            obtain ⟨I8503, A8503, hI8503, hA8503, hV8503, rfl, rfl⟩ := hp
            show GW κ 6 0 0 (wX q d I8503 A8503) 61 [(3, .int x8195), (2, .int x8196), (0, .ref (q 43)), (1, .int z1)] []
            refine g_aload_n hk dX1_slackSum_61 rfl ?_
            refine gX_r43_0 hk hin1 (List.mem_cons_of_mem _ (List.mem_append_left _ (List.mem_of_getElem? (i := 0) rfl))) dX1_slackSum_62 ?_
            refine gX_r37_3 hk hin0 (List.mem_cons_of_mem _ (List.mem_append_left _ (List.mem_of_getElem? (i := 24) rfl))) dX1_slackSum_65 ?_
            refine g_astore (lv' := [(4, .ref (q 38)), (3, .int x8195), (2, .int x8196), (0, .ref (q 43)), (1, .int z1)]) hk dX1_slackSum_68 (by decide) rfl ?_
            refine g_aload hk dX1_slackSum_70 rfl ?_
            refine g_callV (n := 0) hk (k239_X2_endsBound l D zt q d I8503 A8503  hV8503) (SP.same _) (fun _ h => h) (gi_V (List.mem_cons_of_mem _ (List.mem_append_left _ (List.mem_of_getElem? (i := 25) rfl))) (List.mem_cons_of_mem _ (List.mem_append_left _ (List.mem_of_getElem? (i := 26) rfl))) (List.mem_cons_of_mem _ (List.mem_append_left _ (List.mem_of_getElem? (i := 27) rfl))) (List.mem_cons_of_mem _ (List.mem_append_left _ (List.mem_of_getElem? (i := 28) rfl))) (gi_sub (fun w h => (List.mem_cons_of_mem _ (List.mem_append_right _ (List.mem_append_right _ (List.mem_append_right _ (List.mem_append_right _ (List.mem_append_right _ (List.mem_append_right _ (List.mem_append_right _ (List.mem_append_right _ (List.mem_append_right _ (List.mem_append_left _ h)))))))))))) zg_k239_X2_endsBound)) rfl rfl rfl (by decide +kernel) ⟨Nat.le_of_ble_eq_true rfl, Nat.le_of_ble_eq_true rfl⟩ 38 rfl rfl rfl rfl (Nat.le_of_ble_eq_true rfl) ⟨Nat.le_of_ble_eq_true rfl, Nat.le_of_ble_eq_true rfl⟩ dX1_slackSum_72 (fun v ty' w' hp hk' => ?_)
            obtain ⟨y8504, rfl, rfl⟩ := hp
            show GW κ 6 0 0 (wX q d I8503 A8503) 75 [(4, .ref (q 38)), (3, .int x8195), (2, .int x8196), (0, .ref (q 43)), (1, .int z1)] [.int y8504]
            refine g_aload hk dX1_slackSum_75 rfl ?_
            refine g_callV (n := 0) hk (k240_X2_overBound l D zt q d I8503 A8503  hV8503) (SP.same _) (fun _ h => h) (gi_V (List.mem_cons_of_mem _ (List.mem_append_left _ (List.mem_of_getElem? (i := 29) rfl))) (List.mem_cons_of_mem _ (List.mem_append_left _ (List.mem_of_getElem? (i := 30) rfl))) (List.mem_cons_of_mem _ (List.mem_append_left _ (List.mem_of_getElem? (i := 31) rfl))) (List.mem_cons_of_mem _ (List.mem_append_left _ (List.mem_of_getElem? (i := 28) rfl))) (gi_sub (fun w h => (List.mem_cons_of_mem _ (List.mem_append_right _ (List.mem_append_right _ (List.mem_append_right _ (List.mem_append_right _ (List.mem_append_right _ (List.mem_append_right _ (List.mem_append_right _ (List.mem_append_right _ (List.mem_append_right _ (List.mem_append_right _ (List.mem_append_left _ h))))))))))))) zg_k240_X2_overBound)) rfl rfl rfl (by decide +kernel) ⟨Nat.le_of_ble_eq_true rfl, Nat.le_of_ble_eq_true rfl⟩ 38 rfl rfl rfl rfl (Nat.le_of_ble_eq_true rfl) ⟨Nat.le_of_ble_eq_true rfl, Nat.le_of_ble_eq_true rfl⟩ dX1_slackSum_77 (fun v ty' w' hp hk' => ?_)
            obtain ⟨y8505, rfl, rfl⟩ := hp
            show GW κ 6 0 0 (wX q d I8503 A8503) 80 [(4, .ref (q 38)), (3, .int x8195), (2, .int x8196), (0, .ref (q 43)), (1, .int z1)] [.int y8505, .int y8504]
            refine g_aload hk dX1_slackSum_80 rfl ?_
            refine g_callV (n := 0) hk (k243_X2_backBound l D zt q d I8503 A8503  hV8503) (SP.same _) (fun _ h => h) (gi_V (List.mem_cons_of_mem _ (List.mem_append_left _ (List.mem_of_getElem? (i := 32) rfl))) (List.mem_cons_of_mem _ (List.mem_append_left _ (List.mem_of_getElem? (i := 33) rfl))) (List.mem_cons_of_mem _ (List.mem_append_left _ (List.mem_of_getElem? (i := 34) rfl))) (List.mem_cons_of_mem _ (List.mem_append_left _ (List.mem_of_getElem? (i := 28) rfl))) (gi_sub (fun w h => (List.mem_cons_of_mem _ (List.mem_append_right _ (List.mem_append_right _ (List.mem_append_right _ (List.mem_append_right _ (List.mem_append_right _ (List.mem_append_right _ (List.mem_append_right _ (List.mem_append_right _ (List.mem_append_right _ (List.mem_append_right _ (List.mem_append_right _ (List.mem_append_left _ h)))))))))))))) zg_k243_X2_backBound)) rfl rfl rfl (by decide +kernel) ⟨Nat.le_of_ble_eq_true rfl, Nat.le_of_ble_eq_true rfl⟩ 38 rfl rfl rfl rfl (Nat.le_of_ble_eq_true rfl) ⟨Nat.le_of_ble_eq_true rfl, Nat.le_of_ble_eq_true rfl⟩ dX1_slackSum_82 (fun v ty' w' hp hk' => ?_)
            obtain ⟨y8506, rfl, rfl⟩ := hp
            show GW κ 6 0 0 (wX q d I8503 A8503) 85 [(4, .ref (q 38)), (3, .int x8195), (2, .int x8196), (0, .ref (q 43)), (1, .int z1)] [.int y8506, .int y8505, .int y8504]
            have b8507l := Int32.le_toInt y8506
            have b8507h := Int32.toInt_lt y8506
            have b8508l := Int32.le_toInt y8505
            have b8508h := Int32.toInt_lt y8505
            refine g_mmax hk (List.mem_cons_of_mem _ (List.mem_append_left _ (List.mem_of_getElem? (i := 35) rfl))) (List.mem_cons_of_mem _ (List.mem_append_left _ (List.mem_of_getElem? (i := 36) rfl))) (List.mem_cons_of_mem _ (List.mem_append_left _ (List.mem_of_getElem? (i := 37) rfl))) (List.mem_cons_of_mem _ (List.mem_append_left _ (List.mem_of_getElem? (i := 38) rfl))) (Nat.le_of_ble_eq_true rfl) (Nat.le_of_ble_eq_true rfl) (Nat.le_of_ble_eq_true rfl) (Nat.le_of_ble_eq_true rfl) dX1_slackSum_85 ?_
            refine g_topi (fun y8509 ey8509 => ?_)
            have hy8509 := i32_max ey8509
            have b8510l := Int32.le_toInt y8509
            have b8510h := Int32.toInt_lt y8509
            have b8511l := Int32.le_toInt y8504
            have b8511h := Int32.toInt_lt y8504
            refine g_mmax hk (List.mem_cons_of_mem _ (List.mem_append_left _ (List.mem_of_getElem? (i := 35) rfl))) (List.mem_cons_of_mem _ (List.mem_append_left _ (List.mem_of_getElem? (i := 36) rfl))) (List.mem_cons_of_mem _ (List.mem_append_left _ (List.mem_of_getElem? (i := 37) rfl))) (List.mem_cons_of_mem _ (List.mem_append_left _ (List.mem_of_getElem? (i := 38) rfl))) (Nat.le_of_ble_eq_true rfl) (Nat.le_of_ble_eq_true rfl) (Nat.le_of_ble_eq_true rfl) (Nat.le_of_ble_eq_true rfl) dX1_slackSum_88 ?_
            refine g_topi (fun y8512 ey8512 => ?_)
            have hy8512 := i32_max ey8512
            refine g_istore (lv' := [(5, .int y8512), (4, .ref (q 38)), (3, .int x8195), (2, .int x8196), (0, .ref (q 43)), (1, .int z1)]) hk dX1_slackSum_91 (by decide) rfl ?_
            refine g_iload_n hk dX1_slackSum_93 rfl ?_
            refine g_aload hk dX1_slackSum_94 rfl ?_
            refine g_callV (n := 0) hk (k232_X2_wholeDistance l D zt q d I8503 A8503  hV8503) (SP.same _) (fun _ h => h) (gi_V (List.mem_cons_of_mem _ (List.mem_append_left _ (List.mem_of_getElem? (i := 39) rfl))) (List.mem_cons_of_mem _ (List.mem_append_left _ (List.mem_of_getElem? (i := 40) rfl))) (List.mem_cons_of_mem _ (List.mem_append_left _ (List.mem_of_getElem? (i := 41) rfl))) (List.mem_cons_of_mem _ (List.mem_append_left _ (List.mem_of_getElem? (i := 28) rfl))) (gi_sub (fun w h => (List.mem_cons_of_mem _ (List.mem_append_right _ (List.mem_append_right _ (List.mem_append_right _ (List.mem_append_right _ (List.mem_append_right _ (List.mem_append_right _ (List.mem_append_right _ (List.mem_append_right _ (List.mem_append_right _ (List.mem_append_right _ (List.mem_append_right _ (List.mem_append_right _ (List.mem_append_left _ h))))))))))))))) zg_k232_X2_wholeDistance)) rfl rfl rfl (by decide +kernel) ⟨Nat.le_of_ble_eq_true rfl, Nat.le_of_ble_eq_true rfl⟩ 38 rfl rfl rfl rfl (Nat.le_of_ble_eq_true rfl) ⟨Nat.le_of_ble_eq_true rfl, Nat.le_of_ble_eq_true rfl⟩ dX1_slackSum_96 (fun v ty' w' hp hk' => ?_)
            obtain ⟨I8514, A8514, hI8514, hA8514, hV8514, y8513, rfl, rfl⟩ := hp
            show GW κ 6 0 0 (wX q d I8514 A8514) 99 [(5, .int y8512), (4, .ref (q 38)), (3, .int x8195), (2, .int x8196), (0, .ref (q 43)), (1, .int z1)] [.int y8513, .int x8196]
            refine g_iload hk dX1_slackSum_99 rfl ?_
            have b8515l := Int32.le_toInt y8513
            have b8515h := Int32.toInt_lt y8513
            have b8516l := Int32.le_toInt y8512
            have b8516h := Int32.toInt_lt y8512
            refine g_isub hk dX1_slackSum_101 ?_
            refine g_topi (fun y8517 ey8517 => ?_)
            have hy8517 := i32_sub0 ey8517
            have b8518l := Int32.le_toInt x8196
            have b8518h := Int32.toInt_lt x8196
            have b8519l := Int32.le_toInt y8517
            have b8519h := Int32.toInt_lt y8517
            refine g_iadd hk dX1_slackSum_102 ?_
            refine g_topi (fun y8520 ey8520 => ?_)
            refine g_istore_n (lv' := [(2, .int y8520), (5, .int y8512), (4, .ref (q 38)), (3, .int x8195), (0, .ref (q 43)), (1, .int z1)]) hk dX1_slackSum_103 (by decide) rfl ?_
            obtain ⟨y8521, ey8521⟩ : ∃ y : Int32, y = x8195 + Int32.ofInt 1 := ⟨_, rfl⟩
            have hy8521 : y8521.toInt = x8195.toInt + 1 := i32_add ey8521 rfl (by decide) (by omega) (by omega)
            refine g_iinc (v := y8521) (lv' := [(3, .int y8521), (2, .int y8520), (5, .int y8512), (4, .ref (q 38)), (0, .ref (q 43)), (1, .int z1)]) hk 3 dX1_slackSum_104 rfl ey8521.symm (by decide) rfl ?_
            refine g_goto (tgt := 23) hk dX1_slackSum_107 (by decide) ?_
            exact g_lv (List.forall_mem_cons.mpr ⟨List.mem_of_getElem? (i := 0) rfl, (List.forall_mem_cons.mpr ⟨List.mem_of_getElem? (i := 1) rfl, (List.forall_mem_cons.mpr ⟨List.mem_of_getElem? (i := 4) rfl, (List.forall_mem_cons.mpr ⟨List.mem_of_getElem? (i := 5) rfl, (fun _ h => absurd h List.not_mem_nil)⟩)⟩)⟩)⟩) (ih y8521 y8520 I8514 A8514 (show Md [33, 34] I8194 I8514 from Md.tr hI8199 (show Md [33, 34] I8199 I8514 from (Md.tr (Md.tr Md.rf hI8503 rfl) hI8514 rfl)) rfl) (show Md [22, 23] A8194 A8514 from Md.tr hA8199 (show Md [22, 23] A8199 A8514 from (Md.tr (Md.tr Md.rf hA8503 rfl) hA8514 rfl)) rfl) hV8514 (by omega) (by omega) (by omega) (by omega))
        · skip
          show GW κ 6 0 0 (wX q d I8199 A8199) 47 [(3, .int x8195), (2, .int x8196), (0, .ref (q 43)), (1, .int z1)] [.int y8490, .int x8195, .ref (q 13)]
          refine g_callV (n := 2) hk (k207_X6_hasWindow l D zt q d I8199 A8199 x8195 y8490 hV8199) (SP.same _) (fun _ h => h) (gi_V (List.mem_cons_of_mem _ (List.mem_append_left _ (List.mem_of_getElem? (i := 17) rfl))) (List.mem_cons_of_mem _ (List.mem_append_left _ (List.mem_of_getElem? (i := 18) rfl))) (List.mem_cons_of_mem _ (List.mem_append_left _ (List.mem_of_getElem? (i := 19) rfl))) (List.mem_cons_of_mem _ (List.mem_append_left _ (List.mem_of_getElem? (i := 20) rfl))) (gi_sub (fun w h => (List.mem_cons_of_mem _ (List.mem_append_right _ (List.mem_append_right _ (List.mem_append_right _ (List.mem_append_right _ (List.mem_append_right _ (List.mem_append_right _ (List.mem_append_right _ (List.mem_append_left _ h)))))))))) zg_k207_X6_hasWindow)) rfl rfl rfl (by decide +kernel) ⟨Nat.le_of_ble_eq_true rfl, Nat.le_of_ble_eq_true rfl⟩ 13 rfl rfl rfl rfl (Nat.le_of_ble_eq_true rfl) ⟨Nat.le_of_ble_eq_true rfl, Nat.le_of_ble_eq_true rfl⟩ dX1_slackSum_47 (fun v ty' w' hp hk' => ?_)
          rcases hp with ⟨rfl, rfl⟩ | ⟨c8523, c8524, c8525, c8526, c8527, c8528, rfl, rfl⟩
          · skip
            show GW κ 6 0 0 (wX q d I8199 A8199) 50 [(3, .int x8195), (2, .int x8196), (0, .ref (q 43)), (1, .int z1)] [.int 0]
            refine g_if_eq (tgt := 104) (a := 0) hk dX1_slackSum_50 (by decide) rfl (fun _ => ?_) (fun z9 => absurd (show (0 : Int) = (0 : Int) from by decide) z9)
            obtain ⟨y8530, ey8530⟩ : ∃ y : Int32, y = x8195 + Int32.ofInt 1 := ⟨_, rfl⟩
            have hy8530 : y8530.toInt = x8195.toInt + 1 := i32_add ey8530 rfl (by decide) (by omega) (by omega)
            refine g_iinc (v := y8530) (lv' := [(3, .int y8530), (2, .int x8196), (0, .ref (q 43)), (1, .int z1)]) hk 0 dX1_slackSum_104 rfl ey8530.symm (by decide) rfl ?_
            refine g_goto (tgt := 23) hk dX1_slackSum_107 (by decide) ?_
            exact g_lv (List.forall_mem_cons.mpr ⟨List.mem_of_getElem? (i := 0) rfl, (List.forall_mem_cons.mpr ⟨List.mem_of_getElem? (i := 1) rfl, (List.forall_mem_cons.mpr ⟨List.mem_of_getElem? (i := 2) rfl, (List.forall_mem_cons.mpr ⟨List.mem_of_getElem? (i := 3) rfl, (fun _ h => absurd h List.not_mem_nil)⟩)⟩)⟩)⟩) (ih y8530 x8196 I8199 A8199 (show Md [33, 34] I8194 I8199 from Md.tr hI8199 (show Md [33, 34] I8199 I8199 from Md.rf) rfl) (show Md [22, 23] A8194 A8199 from Md.tr hA8199 (show Md [22, 23] A8199 A8199 from Md.rf) rfl) hV8199 (by omega) (by omega) (by omega) (by omega))
          · skip
            show GW κ 6 0 0 (wX q d I8199 A8199) 50 [(3, .int x8195), (2, .int x8196), (0, .ref (q 43)), (1, .int z1)] [.int 1]
            refine g_if_eq (tgt := 104) (a := 1) hk dX1_slackSum_50 (by decide) rfl (fun z9 => absurd z9 (show ¬ ((1 : Int) = (0 : Int)) from by decide)) (fun _ => ?_)
            refine g_aload_n hk dX1_slackSum_53 rfl ?_
            refine gX_r43_0 hk hin1 (List.mem_cons_of_mem _ (List.mem_append_left _ (List.mem_of_getElem? (i := 0) rfl))) dX1_slackSum_54 ?_
            refine g_iload_n hk dX1_slackSum_57 rfl ?_
            refine g_callV (n := 1) hk (k226_X0_laySecondWindow l D zt q d I8199 A8199 x8195 hV8199) (SP.same _) (fun _ h => h) (gi_V (List.mem_cons_of_mem _ (List.mem_append_left _ (List.mem_of_getElem? (i := 21) rfl))) (List.mem_cons_of_mem _ (List.mem_append_left _ (List.mem_of_getElem? (i := 22) rfl))) (List.mem_cons_of_mem _ (List.mem_append_left _ (List.mem_of_getElem? (i := 23) rfl))) (List.mem_cons_of_mem _ (List.mem_append_left _ (List.mem_of_getElem? (i := 9) rfl))) (gi_sub (fun w h => (List.mem_cons_of_mem _ (List.mem_append_right _ (List.mem_append_right _ (List.mem_append_right _ (List.mem_append_right _ (List.mem_append_right _ (List.mem_append_right _ (List.mem_append_right _ (List.mem_append_right _ (List.mem_append_left _ h))))))))))) zg_k226_X0_laySecondWindow)) rfl rfl rfl (by decide +kernel) ⟨Nat.le_of_ble_eq_true rfl, Nat.le_of_ble_eq_true rfl⟩ 37 rfl rfl rfl rfl (Nat.le_of_ble_eq_true rfl) ⟨Nat.le_of_ble_eq_true rfl, Nat.le_of_ble_eq_true rfl⟩ dX1_slackSum_58 (fun v ty' w' hp hk' => ?_)
            obtain ⟨I8532, A8532, hI8532, hA8532, hV8532, rfl, rfl⟩ := hp
            show GW κ 6 0 0 (wX q d I8532 A8532) 61 [(3, .int x8195), (2, .int x8196), (0, .ref (q 43)), (1, .int z1)] []
            refine g_aload_n hk dX1_slackSum_61 rfl ?_
            refine gX_r43_0 hk hin1 (List.mem_cons_of_mem _ (List.mem_append_left _ (List.mem_of_getElem? (i := 0) rfl))) dX1_slackSum_62 ?_
            refine gX_r37_3 hk hin0 (List.mem_cons_of_mem _ (List.mem_append_left _ (List.mem_of_getElem? (i := 24) rfl))) dX1_slackSum_65 ?_
            refine g_astore (lv' := [(4, .ref (q 38)), (3, .int x8195), (2, .int x8196), (0, .ref (q 43)), (1, .int z1)]) hk dX1_slackSum_68 (by decide) rfl ?_
            refine g_aload hk dX1_slackSum_70 rfl ?_
            refine g_callV (n := 0) hk (k239_X2_endsBound l D zt q d I8532 A8532  hV8532) (SP.same _) (fun _ h => h) (gi_V (List.mem_cons_of_mem _ (List.mem_append_left _ (List.mem_of_getElem? (i := 25) rfl))) (List.mem_cons_of_mem _ (List.mem_append_left _ (List.mem_of_getElem? (i := 26) rfl))) (List.mem_cons_of_mem _ (List.mem_append_left _ (List.mem_of_getElem? (i := 27) rfl))) (List.mem_cons_of_mem _ (List.mem_append_left _ (List.mem_of_getElem? (i := 28) rfl))) (gi_sub (fun w h => (List.mem_cons_of_mem _ (List.mem_append_right _ (List.mem_append_right _ (List.mem_append_right _ (List.mem_append_right _ (List.mem_append_right _ (List.mem_append_right _ (List.mem_append_right _ (List.mem_append_right _ (List.mem_append_right _ (List.mem_append_left _ h)))))))))))) zg_k239_X2_endsBound)) rfl rfl rfl (by decide +kernel) ⟨Nat.le_of_ble_eq_true rfl, Nat.le_of_ble_eq_true rfl⟩ 38 rfl rfl rfl rfl (Nat.le_of_ble_eq_true rfl) ⟨Nat.le_of_ble_eq_true rfl, Nat.le_of_ble_eq_true rfl⟩ dX1_slackSum_72 (fun v ty' w' hp hk' => ?_)
            obtain ⟨y8533, rfl, rfl⟩ := hp
            show GW κ 6 0 0 (wX q d I8532 A8532) 75 [(4, .ref (q 38)), (3, .int x8195), (2, .int x8196), (0, .ref (q 43)), (1, .int z1)] [.int y8533]
            refine g_aload hk dX1_slackSum_75 rfl ?_
            refine g_callV (n := 0) hk (k240_X2_overBound l D zt q d I8532 A8532  hV8532) (SP.same _) (fun _ h => h) (gi_V (List.mem_cons_of_mem _ (List.mem_append_left _ (List.mem_of_getElem? (i := 29) rfl))) (List.mem_cons_of_mem _ (List.mem_append_left _ (List.mem_of_getElem? (i := 30) rfl))) (List.mem_cons_of_mem _ (List.mem_append_left _ (List.mem_of_getElem? (i := 31) rfl))) (List.mem_cons_of_mem _ (List.mem_append_left _ (List.mem_of_getElem? (i := 28) rfl))) (gi_sub (fun w h => (List.mem_cons_of_mem _ (List.mem_append_right _ (List.mem_append_right _ (List.mem_append_right _ (List.mem_append_right _ (List.mem_append_right _ (List.mem_append_right _ (List.mem_append_right _ (List.mem_append_right _ (List.mem_append_right _ (List.mem_append_right _ (List.mem_append_left _ h))))))))))))) zg_k240_X2_overBound)) rfl rfl rfl (by decide +kernel) ⟨Nat.le_of_ble_eq_true rfl, Nat.le_of_ble_eq_true rfl⟩ 38 rfl rfl rfl rfl (Nat.le_of_ble_eq_true rfl) ⟨Nat.le_of_ble_eq_true rfl, Nat.le_of_ble_eq_true rfl⟩ dX1_slackSum_77 (fun v ty' w' hp hk' => ?_)
            obtain ⟨y8534, rfl, rfl⟩ := hp
            show GW κ 6 0 0 (wX q d I8532 A8532) 80 [(4, .ref (q 38)), (3, .int x8195), (2, .int x8196), (0, .ref (q 43)), (1, .int z1)] [.int y8534, .int y8533]
            refine g_aload hk dX1_slackSum_80 rfl ?_
            refine g_callV (n := 0) hk (k243_X2_backBound l D zt q d I8532 A8532  hV8532) (SP.same _) (fun _ h => h) (gi_V (List.mem_cons_of_mem _ (List.mem_append_left _ (List.mem_of_getElem? (i := 32) rfl))) (List.mem_cons_of_mem _ (List.mem_append_left _ (List.mem_of_getElem? (i := 33) rfl))) (List.mem_cons_of_mem _ (List.mem_append_left _ (List.mem_of_getElem? (i := 34) rfl))) (List.mem_cons_of_mem _ (List.mem_append_left _ (List.mem_of_getElem? (i := 28) rfl))) (gi_sub (fun w h => (List.mem_cons_of_mem _ (List.mem_append_right _ (List.mem_append_right _ (List.mem_append_right _ (List.mem_append_right _ (List.mem_append_right _ (List.mem_append_right _ (List.mem_append_right _ (List.mem_append_right _ (List.mem_append_right _ (List.mem_append_right _ (List.mem_append_right _ (List.mem_append_left _ h)))))))))))))) zg_k243_X2_backBound)) rfl rfl rfl (by decide +kernel) ⟨Nat.le_of_ble_eq_true rfl, Nat.le_of_ble_eq_true rfl⟩ 38 rfl rfl rfl rfl (Nat.le_of_ble_eq_true rfl) ⟨Nat.le_of_ble_eq_true rfl, Nat.le_of_ble_eq_true rfl⟩ dX1_slackSum_82 (fun v ty' w' hp hk' => ?_)
            obtain ⟨y8535, rfl, rfl⟩ := hp
            show GW κ 6 0 0 (wX q d I8532 A8532) 85 [(4, .ref (q 38)), (3, .int x8195), (2, .int x8196), (0, .ref (q 43)), (1, .int z1)] [.int y8535, .int y8534, .int y8533]
            have b8536l := Int32.le_toInt y8535
            have b8536h := Int32.toInt_lt y8535
            have b8537l := Int32.le_toInt y8534
            have b8537h := Int32.toInt_lt y8534
            refine g_mmax hk (List.mem_cons_of_mem _ (List.mem_append_left _ (List.mem_of_getElem? (i := 35) rfl))) (List.mem_cons_of_mem _ (List.mem_append_left _ (List.mem_of_getElem? (i := 36) rfl))) (List.mem_cons_of_mem _ (List.mem_append_left _ (List.mem_of_getElem? (i := 37) rfl))) (List.mem_cons_of_mem _ (List.mem_append_left _ (List.mem_of_getElem? (i := 38) rfl))) (Nat.le_of_ble_eq_true rfl) (Nat.le_of_ble_eq_true rfl) (Nat.le_of_ble_eq_true rfl) (Nat.le_of_ble_eq_true rfl) dX1_slackSum_85 ?_
            refine g_topi (fun y8538 ey8538 => ?_)
            have hy8538 := i32_max ey8538
            have b8539l := Int32.le_toInt y8538
            have b8539h := Int32.toInt_lt y8538
            have b8540l := Int32.le_toInt y8533
            have b8540h := Int32.toInt_lt y8533
            refine g_mmax hk (List.mem_cons_of_mem _ (List.mem_append_left _ (List.mem_of_getElem? (i := 35) rfl))) (List.mem_cons_of_mem _ (List.mem_append_left _ (List.mem_of_getElem? (i := 36) rfl))) (List.mem_cons_of_mem _ (List.mem_append_left _ (List.mem_of_getElem? (i := 37) rfl))) (List.mem_cons_of_mem _ (List.mem_append_left _ (List.mem_of_getElem? (i := 38) rfl))) (Nat.le_of_ble_eq_true rfl) (Nat.le_of_ble_eq_true rfl) (Nat.le_of_ble_eq_true rfl) (Nat.le_of_ble_eq_true rfl) dX1_slackSum_88 ?_
            refine g_topi (fun y8541 ey8541 => ?_)
            have hy8541 := i32_max ey8541
            refine g_istore (lv' := [(5, .int y8541), (4, .ref (q 38)), (3, .int x8195), (2, .int x8196), (0, .ref (q 43)), (1, .int z1)]) hk dX1_slackSum_91 (by decide) rfl ?_
            refine g_iload_n hk dX1_slackSum_93 rfl ?_
            refine g_aload hk dX1_slackSum_94 rfl ?_
            refine g_callV (n := 0) hk (k232_X2_wholeDistance l D zt q d I8532 A8532  hV8532) (SP.same _) (fun _ h => h) (gi_V (List.mem_cons_of_mem _ (List.mem_append_left _ (List.mem_of_getElem? (i := 39) rfl))) (List.mem_cons_of_mem _ (List.mem_append_left _ (List.mem_of_getElem? (i := 40) rfl))) (List.mem_cons_of_mem _ (List.mem_append_left _ (List.mem_of_getElem? (i := 41) rfl))) (List.mem_cons_of_mem _ (List.mem_append_left _ (List.mem_of_getElem? (i := 28) rfl))) (gi_sub (fun w h => (List.mem_cons_of_mem _ (List.mem_append_right _ (List.mem_append_right _ (List.mem_append_right _ (List.mem_append_right _ (List.mem_append_right _ (List.mem_append_right _ (List.mem_append_right _ (List.mem_append_right _ (List.mem_append_right _ (List.mem_append_right _ (List.mem_append_right _ (List.mem_append_right _ (List.mem_append_left _ h))))))))))))))) zg_k232_X2_wholeDistance)) rfl rfl rfl (by decide +kernel) ⟨Nat.le_of_ble_eq_true rfl, Nat.le_of_ble_eq_true rfl⟩ 38 rfl rfl rfl rfl (Nat.le_of_ble_eq_true rfl) ⟨Nat.le_of_ble_eq_true rfl, Nat.le_of_ble_eq_true rfl⟩ dX1_slackSum_96 (fun v ty' w' hp hk' => ?_)
            obtain ⟨I8543, A8543, hI8543, hA8543, hV8543, y8542, rfl, rfl⟩ := hp
            show GW κ 6 0 0 (wX q d I8543 A8543) 99 [(5, .int y8541), (4, .ref (q 38)), (3, .int x8195), (2, .int x8196), (0, .ref (q 43)), (1, .int z1)] [.int y8542, .int x8196]
            refine g_iload hk dX1_slackSum_99 rfl ?_
            have b8544l := Int32.le_toInt y8542
            have b8544h := Int32.toInt_lt y8542
            have b8545l := Int32.le_toInt y8541
            have b8545h := Int32.toInt_lt y8541
            refine g_isub hk dX1_slackSum_101 ?_
            refine g_topi (fun y8546 ey8546 => ?_)
            have hy8546 := i32_sub0 ey8546
            have b8547l := Int32.le_toInt x8196
            have b8547h := Int32.toInt_lt x8196
            have b8548l := Int32.le_toInt y8546
            have b8548h := Int32.toInt_lt y8546
            refine g_iadd hk dX1_slackSum_102 ?_
            refine g_topi (fun y8549 ey8549 => ?_)
            refine g_istore_n (lv' := [(2, .int y8549), (5, .int y8541), (4, .ref (q 38)), (3, .int x8195), (0, .ref (q 43)), (1, .int z1)]) hk dX1_slackSum_103 (by decide) rfl ?_
            obtain ⟨y8550, ey8550⟩ : ∃ y : Int32, y = x8195 + Int32.ofInt 1 := ⟨_, rfl⟩
            have hy8550 : y8550.toInt = x8195.toInt + 1 := i32_add ey8550 rfl (by decide) (by omega) (by omega)
            refine g_iinc (v := y8550) (lv' := [(3, .int y8550), (2, .int y8549), (5, .int y8541), (4, .ref (q 38)), (0, .ref (q 43)), (1, .int z1)]) hk 3 dX1_slackSum_104 rfl ey8550.symm (by decide) rfl ?_
            refine g_goto (tgt := 23) hk dX1_slackSum_107 (by decide) ?_
            exact g_lv (List.forall_mem_cons.mpr ⟨List.mem_of_getElem? (i := 0) rfl, (List.forall_mem_cons.mpr ⟨List.mem_of_getElem? (i := 1) rfl, (List.forall_mem_cons.mpr ⟨List.mem_of_getElem? (i := 4) rfl, (List.forall_mem_cons.mpr ⟨List.mem_of_getElem? (i := 5) rfl, (fun _ h => absurd h List.not_mem_nil)⟩)⟩)⟩)⟩) (ih y8550 y8549 I8543 A8543 (show Md [33, 34] I8194 I8543 from Md.tr hI8199 (show Md [33, 34] I8199 I8543 from (Md.tr (Md.tr Md.rf hI8532 rfl) hI8543 rfl)) rfl) (show Md [22, 23] A8194 A8543 from Md.tr hA8199 (show Md [22, 23] A8199 A8543 from (Md.tr (Md.tr Md.rf hA8532 rfl) hA8543 rfl)) rfl) hV8543 (by omega) (by omega) (by omega) (by omega))
  obtain ⟨n8551, n8551a, n8551b⟩ : ∃ n : Nat, 161 - 0 < (n : Int) ∧ 0 < n := ⟨((161 - 0 : Int)).toNat + 1, by omega, by omega⟩
  exact lp8477 n8551 0 0 I8194 A8194 Md.rf Md.rf hV8194 (by omega) (by omega) n8551a n8551b
def wo_k287_X11_slack : List Cond := [Cond.fieldLink RX11 35 "WarpDesk" "queries" "LWarpDesk$Queries;", Cond.methodLink RX11 251 yX4_has, Cond.instanceMethod yX4_has, Cond.selects RX4 yX4_has yX4_has, Cond.initialized RX4, Cond.fieldLink RX11 74 "WarpDesk" "finder" "LWarpDesk$Finder;", Cond.methodLink RX11 317 yX1_slackSum, Cond.instanceMethod yX1_slackSum, Cond.selects RX1 yX1_slackSum yX1_slackSum, Cond.initialized RX1]
def wz_k287_X11_slack : List Cond := .code yX11_slack cX11_slack 2 (some .int) :: (wo_k287_X11_slack ++ (wsX110 ++ (wz_k168_X4_has ++ (wz_k288_X1_slackSum ++ ([] : List Cond)))))
theorem zg_k287_X11_slack : ∀ w ∈ wz_k287_X11_slack, goodWord w = true := zg_cons rfl (zg_app (by decide +kernel) (zg_app zgU_wsX110 (zg_app zg_k168_X4_has (zg_app zg_k288_X1_slackSum zg_nil))))
theorem zi_k287_X11_slack : ∀ w ∈ wz_k287_X11_slack, w ∈ lw_tbl := zi_cons zw_1230 (zi_app (zi_cons zw_490 (zi_cons zw_1086 (zi_cons zw_747 (zi_cons zw_748 (zi_cons zw_108 (zi_cons zw_495 (zi_cons zw_1231 (zi_cons zw_1232 (zi_cons zw_1233 (zi_cons zw_113 zi_nil)))))))))) (zi_app inX11 (zi_app zi_k168_X4_has (zi_app zi_k288_X1_slackSum zi_nil))))
set_option maxHeartbeats 4000000 in
set_option maxRecDepth 100000 in
theorem k287_X11_slack (l : Launch) (D : va_G) (zt : Nat × Nat × Nat × (Nat → Nat) × (Nat → Nat)) (q : Nat → Nat) (d : Nat → ClassId) (I : Nat → Int32) (A : Nat → Nat → Int32) (z1 : Int32) (hIv : IvX I A) : GM l D zt (tyX d) yX11_slack wz_k287_X11_slack ({ frames := 6, cells := 0, slots := 0, locals := 134 } : Room) [.ref (q 0), .int z1] (wX q d I A) (fun v _ w' => ∃ (I' : Nat → Int32) (A' : Nat → Nat → Int32), Md [28, 30, 31, 32, 33, 34] I I' ∧ Md [21, 22, 23] A A' ∧ IvX I' A' ∧ ∃ y0 : Int32, v = some (.int y0) ∧ w' = wX q d I' A') 0 0 := by
  refine GM.of (cc := cX11_slack) (maxL := 2) (ret := (some .int)) (own := RX11) (lv := [(0, .ref (q 0)), (1, .int z1)]) (by decide) rfl rfl (Nat.le_of_ble_eq_true rfl) rfl (fun κ sz hk hR hN => ?_)
  have hin11 : ∀ w ∈ u_ws RX11 TX11 10, w ∈ wz_k287_X11_slack := fun w h => (List.mem_cons_of_mem _ (List.mem_append_right _ (List.mem_append_left _ h)))
  refine g_aload_n hk dX11_slack_0 rfl ?_
  refine gX_r0_3 hk hin11 (List.mem_cons_of_mem _ (List.mem_append_left _ (List.mem_of_getElem? (i := 0) rfl))) dX11_slack_1 ?_
  refine g_iload_n hk dX11_slack_4 rfl ?_
  refine g_callV (n := 1) hk (k168_X4_has l D zt q d I A z1 hIv) (SP.same _) (fun _ h => h) (gi_V (List.mem_cons_of_mem _ (List.mem_append_left _ (List.mem_of_getElem? (i := 1) rfl))) (List.mem_cons_of_mem _ (List.mem_append_left _ (List.mem_of_getElem? (i := 2) rfl))) (List.mem_cons_of_mem _ (List.mem_append_left _ (List.mem_of_getElem? (i := 3) rfl))) (List.mem_cons_of_mem _ (List.mem_append_left _ (List.mem_of_getElem? (i := 4) rfl))) (gi_sub (fun w h => (List.mem_cons_of_mem _ (List.mem_append_right _ (List.mem_append_right _ (List.mem_append_left _ h))))) zg_k168_X4_has)) rfl rfl rfl (by decide +kernel) ⟨Nat.le_of_ble_eq_true rfl, Nat.le_of_ble_eq_true rfl⟩ 15 rfl rfl rfl rfl (Nat.le_of_ble_eq_true rfl) ⟨Nat.le_of_ble_eq_true rfl, Nat.le_of_ble_eq_true rfl⟩ dX11_slack_5 (fun v ty' w' hp hk' => ?_)
  rcases hp with ⟨rfl, rfl⟩ | ⟨c8186, c8187, c8188, c8189, rfl, rfl⟩
  · skip
    show GW κ 2 0 0 (wX q d I A) 8 [(0, .ref (q 0)), (1, .int z1)] [.int 0]
    refine g_if_eq (tgt := 22) (a := 0) hk dX11_slack_8 (by decide) rfl (fun _ => ?_) (fun z9 => absurd (show (0 : Int) = (0 : Int) from by decide) z9)
    refine g_iconst (v := (-1)) hk dX11_slack_22 (by decide) ?_
    exact g_iret hk hR rfl ⟨I, A, (show Md [28, 30, 31, 32, 33, 34] I I from Md.rf), (show Md [21, 22, 23] A A from Md.rf), hIv, (-1), rfl, rfl⟩ dX11_slack_23
  · skip
    show GW κ 2 0 0 (wX q d I A) 8 [(0, .ref (q 0)), (1, .int z1)] [.int 1]
    refine g_if_eq (tgt := 22) (a := 1) hk dX11_slack_8 (by decide) rfl (fun z9 => absurd z9 (show ¬ ((1 : Int) = (0 : Int)) from by decide)) (fun _ => ?_)
    refine g_aload_n hk dX11_slack_11 rfl ?_
    refine gX_r0_8 hk hin11 (List.mem_cons_of_mem _ (List.mem_append_left _ (List.mem_of_getElem? (i := 5) rfl))) dX11_slack_12 ?_
    refine g_iload_n hk dX11_slack_15 rfl ?_
    refine g_callV (n := 1) hk (k288_X1_slackSum l D zt q d I A z1 hIv) (SP.same _) (fun _ h => h) (gi_V (List.mem_cons_of_mem _ (List.mem_append_left _ (List.mem_of_getElem? (i := 6) rfl))) (List.mem_cons_of_mem _ (List.mem_append_left _ (List.mem_of_getElem? (i := 7) rfl))) (List.mem_cons_of_mem _ (List.mem_append_left _ (List.mem_of_getElem? (i := 8) rfl))) (List.mem_cons_of_mem _ (List.mem_append_left _ (List.mem_of_getElem? (i := 9) rfl))) (gi_sub (fun w h => (List.mem_cons_of_mem _ (List.mem_append_right _ (List.mem_append_right _ (List.mem_append_right _ (List.mem_append_left _ h)))))) zg_k288_X1_slackSum)) rfl rfl rfl (by decide +kernel) ⟨Nat.le_of_ble_eq_true rfl, Nat.le_of_ble_eq_true rfl⟩ 43 rfl rfl rfl rfl (Nat.le_of_ble_eq_true rfl) ⟨Nat.le_of_ble_eq_true rfl, Nat.le_of_ble_eq_true rfl⟩ dX11_slack_16 (fun v ty' w' hp hk' => ?_)
    obtain ⟨I8553, A8553, hI8553, hA8553, hV8553, y8552, rfl, rfl⟩ := hp
    show GW κ 2 0 0 (wX q d I8553 A8553) 19 [(0, .ref (q 0)), (1, .int z1)] [.int y8552]
    refine g_goto (tgt := 23) hk dX11_slack_19 (by decide) ?_
    have b8554l := Int32.le_toInt y8552
    have b8554h := Int32.toInt_lt y8552
    exact g_iret hk hR rfl ⟨I8553, A8553, (show Md [28, 30, 31, 32, 33, 34] I I8553 from (Md.tr Md.rf hI8553 rfl)), (show Md [21, 22, 23] A A8553 from (Md.tr Md.rf hA8553 rfl)), hV8553, y8552, rfl, rfl⟩ dX11_slack_23
def wo_k290_X1_turnCount : List Cond := [Cond.fieldLink RX1 15 "WarpDesk$Finder" "distances" "[I"]
def wz_k290_X1_turnCount : List Cond := .code yX1_turnCount cX1_turnCount 6 (some .int) :: (wo_k290_X1_turnCount ++ (wsX10 ++ ([] : List Cond)))
theorem zg_k290_X1_turnCount : ∀ w ∈ wz_k290_X1_turnCount, goodWord w = true := zg_cons rfl (zg_app (by decide +kernel) (zg_app zgU_wsX10 zg_nil))
theorem zi_k290_X1_turnCount : ∀ w ∈ wz_k290_X1_turnCount, w ∈ lw_tbl := zi_cons zw_1246 (zi_app (zi_cons zw_411 zi_nil) (zi_app inX1 zi_nil))
set_option maxHeartbeats 4000000 in
set_option maxRecDepth 100000 in
theorem k290_X1_turnCount (l : Launch) (D : va_G) (zt : Nat × Nat × Nat × (Nat → Nat) × (Nat → Nat)) (q : Nat → Nat) (d : Nat → ClassId) (I : Nat → Int32) (A : Nat → Nat → Int32) (hIv : IvX I A) : GM l D zt (tyX d) yX1_turnCount wz_k290_X1_turnCount ({ frames := 0, cells := 0, slots := 0, locals := 0 } : Room) [.ref (q 43)] (wX q d I A) (fun v _ w' => ∃ y0 : Int32, v = some (.int y0) ∧ w' = wX q d I A) 0 0 := by
  refine GM.of (cc := cX1_turnCount) (maxL := 6) (ret := (some .int)) (own := RX1) (lv := [(0, .ref (q 43))]) (by decide) rfl rfl (Nat.le_of_ble_eq_true rfl) rfl (fun κ sz hk hR hN => ?_)
  have hin1 : ∀ w ∈ u_ws RX1 TX1 11, w ∈ wz_k290_X1_turnCount := fun w h => (List.mem_cons_of_mem _ (List.mem_append_right _ (List.mem_append_left _ h)))
  refine g_iconst (v := 0) hk dX1_turnCount_0 (by decide) ?_
  refine g_istore_n (lv' := [(1, .int 0), (0, .ref (q 43))]) hk dX1_turnCount_1 (by decide) rfl ?_
  refine g_iconst (v := (-1)) hk dX1_turnCount_2 (by decide) ?_
  refine g_istore_n (lv' := [(2, .int (-1)), (1, .int 0), (0, .ref (q 43))]) hk dX1_turnCount_3 (by decide) rfl ?_
  refine g_iconst (v := 0) hk dX1_turnCount_4 (by decide) ?_
  refine g_istore_n (lv' := [(3, .int 0), (2, .int (-1)), (1, .int 0), (0, .ref (q 43))]) hk dX1_turnCount_5 (by decide) rfl ?_
  refine g_iconst (v := 0) hk dX1_turnCount_6 (by decide) ?_
  refine g_istore (lv' := [(4, .int 0), (3, .int 0), (2, .int (-1)), (1, .int 0), (0, .ref (q 43))]) hk dX1_turnCount_7 (by decide) rfl ?_
  have lp8671 : ∀ (n8672 : Nat) (x8563 : Int32) (x8564 : Int32) (x8565 : Int32) (x8566 : Int32), (0 ≤ x8563.toInt) → (x8563.toInt ≤ 160) → (0 ≤ x8564.toInt) → (x8564.toInt ≤ 1) → ((-1) ≤ x8565.toInt) → (161 - x8563.toInt < (n8672 : Int)) → (0 < n8672) → GW κ 6 0 0 (wX q d I A) 9 [(4, .int x8563), (3, .int x8564), (2, .int x8565), (1, .int x8566), (0, .ref (q 43))] [] := by
    intro n8672
    induction n8672 with
    | zero =>
      intro x8563 x8564 x8565 x8566 h8666 h8667 h8668 h8669 h8670 m8673 m8673z
      exact absurd m8673z (Nat.lt_irrefl 0)
    | succ n8672 ih =>
      intro x8563 x8564 x8565 x8566 h8666 h8667 h8668 h8669 h8670 m8673 m8673z
      refine g_iload hk dX1_turnCount_9 rfl ?_
      refine g_sipush (v := 160) hk dX1_turnCount_11 (by decide) ?_
      refine g_icmp_ge (tgt := 82) (a := x8563.toInt) (b := 160) hk dX1_turnCount_14 (by decide) rfl rfl (fun c8674 => ?_) (fun c8674 => ?_)
      · skip
        refine g_iload_n hk dX1_turnCount_82 rfl ?_
        have b8675l := Int32.le_toInt x8566
        have b8675h := Int32.toInt_lt x8566
        exact g_iret hk hR rfl ⟨x8566, rfl, rfl⟩ dX1_turnCount_83
      · skip
        refine g_aload_n hk dX1_turnCount_17 rfl ?_
        refine gX_r43_6 hk hin1 (List.mem_cons_of_mem _ (List.mem_append_left _ (List.mem_of_getElem? (i := 0) rfl))) dX1_turnCount_18 ?_
        refine g_iload hk dX1_turnCount_21 rfl ?_
        refine lX_26 (v := (A 26 x8563.toNatClampNeg)) hk (vp_in_iff.mpr ⟨by omega, by omega⟩) rfl dX1_turnCount_23 ?_
        refine g_istore (lv' := [(5, .int (A 26 x8563.toNatClampNeg)), (4, .int x8563), (3, .int x8564), (2, .int x8565), (1, .int x8566), (0, .ref (q 43))]) hk dX1_turnCount_24 (by decide) rfl ?_
        refine g_iload hk dX1_turnCount_26 rfl ?_
        have b8676l := Int32.le_toInt (A 26 x8563.toNatClampNeg)
        have b8676h := Int32.toInt_lt (A 26 x8563.toNatClampNeg)
        refine g_if_ge (tgt := 34) (a := (A 26 x8563.toNatClampNeg).toInt) hk dX1_turnCount_28 (by decide) rfl (fun c8677 => ?_) (fun c8677 => ?_)
        · skip
          refine g_iload_n hk dX1_turnCount_34 rfl ?_
          have b8678l := Int32.le_toInt x8565
          have b8678h := Int32.toInt_lt x8565
          refine g_if_lt (tgt := 49) (a := x8565.toInt) hk dX1_turnCount_35 (by decide) rfl (fun c8679 => ?_) (fun c8679 => ?_)
          · skip
            refine g_iload_n hk dX1_turnCount_49 rfl ?_
            refine g_if_lt (tgt := 73) (a := x8565.toInt) hk dX1_turnCount_50 (by decide) rfl (fun _ => ?_) (fun z9 => absurd (show x8565.toInt < 0 from by omega) z9)
            refine g_iload hk dX1_turnCount_73 rfl ?_
            refine g_istore_n (lv' := [(2, .int (A 26 x8563.toNatClampNeg)), (5, .int (A 26 x8563.toNatClampNeg)), (4, .int x8563), (3, .int x8564), (1, .int x8566), (0, .ref (q 43))]) hk dX1_turnCount_75 (by decide) rfl ?_
            obtain ⟨y8680, ey8680⟩ : ∃ y : Int32, y = x8563 + Int32.ofInt 1 := ⟨_, rfl⟩
            have hy8680 : y8680.toInt = x8563.toInt + 1 := i32_add ey8680 rfl (by decide) (by omega) (by omega)
            refine g_iinc (v := y8680) (lv' := [(4, .int y8680), (2, .int (A 26 x8563.toNatClampNeg)), (5, .int (A 26 x8563.toNatClampNeg)), (3, .int x8564), (1, .int x8566), (0, .ref (q 43))]) hk 2 dX1_turnCount_76 rfl ey8680.symm (by decide) rfl ?_
            refine g_goto (tgt := 9) hk dX1_turnCount_79 (by decide) ?_
            exact g_lv (List.forall_mem_cons.mpr ⟨List.mem_of_getElem? (i := 0) rfl, (List.forall_mem_cons.mpr ⟨List.mem_of_getElem? (i := 3) rfl, (List.forall_mem_cons.mpr ⟨List.mem_of_getElem? (i := 1) rfl, (List.forall_mem_cons.mpr ⟨List.mem_of_getElem? (i := 4) rfl, (List.forall_mem_cons.mpr ⟨List.mem_of_getElem? (i := 5) rfl, (fun _ h => absurd h List.not_mem_nil)⟩)⟩)⟩)⟩)⟩) (ih y8680 x8564 (A 26 x8563.toNatClampNeg) x8566 (by omega) (by omega) (by omega) (by omega) (by omega) (by omega) (by omega))
          · skip
            refine g_iload hk dX1_turnCount_38 rfl ?_
            refine g_iload_n hk dX1_turnCount_40 rfl ?_
            refine g_icmp_ge (tgt := 49) (a := (A 26 x8563.toNatClampNeg).toInt) (b := x8565.toInt) hk dX1_turnCount_41 (by decide) rfl rfl (fun c8681 => ?_) (fun c8681 => ?_)
            · skip
              refine g_iload_n hk dX1_turnCount_49 rfl ?_
              refine g_if_lt (tgt := 73) (a := x8565.toInt) hk dX1_turnCount_50 (by decide) rfl (fun z9 => absurd z9 (show ¬ (x8565.toInt < 0) from by omega)) (fun _ => ?_)
              refine g_iload hk dX1_turnCount_53 rfl ?_
              refine g_iload_n hk dX1_turnCount_55 rfl ?_
              refine g_icmp_le (tgt := 73) (a := (A 26 x8563.toNatClampNeg).toInt) (b := x8565.toInt) hk dX1_turnCount_56 (by decide) rfl rfl (fun c8682 => ?_) (fun c8682 => ?_)
              · skip
                refine g_iload hk dX1_turnCount_73 rfl ?_
                refine g_istore_n (lv' := [(2, .int (A 26 x8563.toNatClampNeg)), (5, .int (A 26 x8563.toNatClampNeg)), (4, .int x8563), (3, .int x8564), (1, .int x8566), (0, .ref (q 43))]) hk dX1_turnCount_75 (by decide) rfl ?_
                obtain ⟨y8683, ey8683⟩ : ∃ y : Int32, y = x8563 + Int32.ofInt 1 := ⟨_, rfl⟩
                have hy8683 : y8683.toInt = x8563.toInt + 1 := i32_add ey8683 rfl (by decide) (by omega) (by omega)
                refine g_iinc (v := y8683) (lv' := [(4, .int y8683), (2, .int (A 26 x8563.toNatClampNeg)), (5, .int (A 26 x8563.toNatClampNeg)), (3, .int x8564), (1, .int x8566), (0, .ref (q 43))]) hk 2 dX1_turnCount_76 rfl ey8683.symm (by decide) rfl ?_
                refine g_goto (tgt := 9) hk dX1_turnCount_79 (by decide) ?_
                exact g_lv (List.forall_mem_cons.mpr ⟨List.mem_of_getElem? (i := 0) rfl, (List.forall_mem_cons.mpr ⟨List.mem_of_getElem? (i := 3) rfl, (List.forall_mem_cons.mpr ⟨List.mem_of_getElem? (i := 1) rfl, (List.forall_mem_cons.mpr ⟨List.mem_of_getElem? (i := 4) rfl, (List.forall_mem_cons.mpr ⟨List.mem_of_getElem? (i := 5) rfl, (fun _ h => absurd h List.not_mem_nil)⟩)⟩)⟩)⟩)⟩) (ih y8683 x8564 (A 26 x8563.toNatClampNeg) x8566 (by omega) (by omega) (by omega) (by omega) (by omega) (by omega) (by omega))
              · skip
                refine g_iload_n hk dX1_turnCount_59 rfl ?_
                refine g_iload_n hk dX1_turnCount_60 rfl ?_
                refine g_if_eq (tgt := 68) (a := x8564.toInt) hk dX1_turnCount_61 (by decide) rfl (fun c8684 => ?_) (fun c8684 => ?_)
                · skip
                  refine g_iconst (v := 0) hk dX1_turnCount_68 (by decide) ?_
                  have b8685l := Int32.le_toInt x8566
                  have b8685h := Int32.toInt_lt x8566
                  refine g_iadd hk dX1_turnCount_69 ?_
                  refine g_topi (fun y8686 ey8686 => ?_)
                  have hy8686 : y8686.toInt = x8566.toInt + 0 := i32_add ey8686 rfl rfl (by omega) (by omega)
                  refine g_istore_n (lv' := [(1, .int y8686), (5, .int (A 26 x8563.toNatClampNeg)), (4, .int x8563), (3, .int x8564), (2, .int x8565), (0, .ref (q 43))]) hk dX1_turnCount_70 (by decide) rfl ?_
                  refine g_iconst (v := 0) hk dX1_turnCount_71 (by decide) ?_
                  refine g_istore_n (lv' := [(3, .int 0), (1, .int y8686), (5, .int (A 26 x8563.toNatClampNeg)), (4, .int x8563), (2, .int x8565), (0, .ref (q 43))]) hk dX1_turnCount_72 (by decide) rfl ?_
                  refine g_iload hk dX1_turnCount_73 rfl ?_
                  refine g_istore_n (lv' := [(2, .int (A 26 x8563.toNatClampNeg)), (3, .int 0), (1, .int y8686), (5, .int (A 26 x8563.toNatClampNeg)), (4, .int x8563), (0, .ref (q 43))]) hk dX1_turnCount_75 (by decide) rfl ?_
                  obtain ⟨y8687, ey8687⟩ : ∃ y : Int32, y = x8563 + Int32.ofInt 1 := ⟨_, rfl⟩
                  have hy8687 : y8687.toInt = x8563.toInt + 1 := i32_add ey8687 rfl (by decide) (by omega) (by omega)
                  refine g_iinc (v := y8687) (lv' := [(4, .int y8687), (2, .int (A 26 x8563.toNatClampNeg)), (3, .int 0), (1, .int y8686), (5, .int (A 26 x8563.toNatClampNeg)), (0, .ref (q 43))]) hk 4 dX1_turnCount_76 rfl ey8687.symm (by decide) rfl ?_
                  refine g_goto (tgt := 9) hk dX1_turnCount_79 (by decide) ?_
                  have k8688 : (0 : Int32).toInt = 0 := rfl
                  exact g_lv (List.forall_mem_cons.mpr ⟨List.mem_of_getElem? (i := 0) rfl, (List.forall_mem_cons.mpr ⟨List.mem_of_getElem? (i := 2) rfl, (List.forall_mem_cons.mpr ⟨List.mem_of_getElem? (i := 1) rfl, (List.forall_mem_cons.mpr ⟨List.mem_of_getElem? (i := 3) rfl, (List.forall_mem_cons.mpr ⟨List.mem_of_getElem? (i := 5) rfl, (fun _ h => absurd h List.not_mem_nil)⟩)⟩)⟩)⟩)⟩) (ih y8687 0 (A 26 x8563.toNatClampNeg) y8686 (by omega) (by omega) (by omega) (by omega) (by omega) (by omega) (by omega))
                · skip
                  refine g_iconst (v := 1) hk dX1_turnCount_64 (by decide) ?_
                  refine g_goto (tgt := 69) hk dX1_turnCount_65 (by decide) ?_
                  have b8689l := Int32.le_toInt x8566
                  have b8689h := Int32.toInt_lt x8566
                  refine g_iadd hk dX1_turnCount_69 ?_
                  refine g_topi (fun y8690 ey8690 => ?_)
                  refine g_istore_n (lv' := [(1, .int y8690), (5, .int (A 26 x8563.toNatClampNeg)), (4, .int x8563), (3, .int x8564), (2, .int x8565), (0, .ref (q 43))]) hk dX1_turnCount_70 (by decide) rfl ?_
                  refine g_iconst (v := 0) hk dX1_turnCount_71 (by decide) ?_
                  refine g_istore_n (lv' := [(3, .int 0), (1, .int y8690), (5, .int (A 26 x8563.toNatClampNeg)), (4, .int x8563), (2, .int x8565), (0, .ref (q 43))]) hk dX1_turnCount_72 (by decide) rfl ?_
                  refine g_iload hk dX1_turnCount_73 rfl ?_
                  refine g_istore_n (lv' := [(2, .int (A 26 x8563.toNatClampNeg)), (3, .int 0), (1, .int y8690), (5, .int (A 26 x8563.toNatClampNeg)), (4, .int x8563), (0, .ref (q 43))]) hk dX1_turnCount_75 (by decide) rfl ?_
                  obtain ⟨y8691, ey8691⟩ : ∃ y : Int32, y = x8563 + Int32.ofInt 1 := ⟨_, rfl⟩
                  have hy8691 : y8691.toInt = x8563.toInt + 1 := i32_add ey8691 rfl (by decide) (by omega) (by omega)
                  refine g_iinc (v := y8691) (lv' := [(4, .int y8691), (2, .int (A 26 x8563.toNatClampNeg)), (3, .int 0), (1, .int y8690), (5, .int (A 26 x8563.toNatClampNeg)), (0, .ref (q 43))]) hk 4 dX1_turnCount_76 rfl ey8691.symm (by decide) rfl ?_
                  refine g_goto (tgt := 9) hk dX1_turnCount_79 (by decide) ?_
                  have k8692 : (0 : Int32).toInt = 0 := rfl
                  exact g_lv (List.forall_mem_cons.mpr ⟨List.mem_of_getElem? (i := 0) rfl, (List.forall_mem_cons.mpr ⟨List.mem_of_getElem? (i := 2) rfl, (List.forall_mem_cons.mpr ⟨List.mem_of_getElem? (i := 1) rfl, (List.forall_mem_cons.mpr ⟨List.mem_of_getElem? (i := 3) rfl, (List.forall_mem_cons.mpr ⟨List.mem_of_getElem? (i := 5) rfl, (fun _ h => absurd h List.not_mem_nil)⟩)⟩)⟩)⟩)⟩) (ih y8691 0 (A 26 x8563.toNatClampNeg) y8690 (by omega) (by omega) (by omega) (by omega) (by omega) (by omega) (by omega))
            · skip
              refine g_iconst (v := 1) hk dX1_turnCount_44 (by decide) ?_
              refine g_istore_n (lv' := [(3, .int 1), (5, .int (A 26 x8563.toNatClampNeg)), (4, .int x8563), (2, .int x8565), (1, .int x8566), (0, .ref (q 43))]) hk dX1_turnCount_45 (by decide) rfl ?_
              refine g_goto (tgt := 73) hk dX1_turnCount_46 (by decide) ?_
              refine g_iload hk dX1_turnCount_73 rfl ?_
              refine g_istore_n (lv' := [(2, .int (A 26 x8563.toNatClampNeg)), (3, .int 1), (5, .int (A 26 x8563.toNatClampNeg)), (4, .int x8563), (1, .int x8566), (0, .ref (q 43))]) hk dX1_turnCount_75 (by decide) rfl ?_
              obtain ⟨y8693, ey8693⟩ : ∃ y : Int32, y = x8563 + Int32.ofInt 1 := ⟨_, rfl⟩
              have hy8693 : y8693.toInt = x8563.toInt + 1 := i32_add ey8693 rfl (by decide) (by omega) (by omega)
              refine g_iinc (v := y8693) (lv' := [(4, .int y8693), (2, .int (A 26 x8563.toNatClampNeg)), (3, .int 1), (5, .int (A 26 x8563.toNatClampNeg)), (1, .int x8566), (0, .ref (q 43))]) hk 3 dX1_turnCount_76 rfl ey8693.symm (by decide) rfl ?_
              refine g_goto (tgt := 9) hk dX1_turnCount_79 (by decide) ?_
              have k8694 : (1 : Int32).toInt = 1 := rfl
              exact g_lv (List.forall_mem_cons.mpr ⟨List.mem_of_getElem? (i := 0) rfl, (List.forall_mem_cons.mpr ⟨List.mem_of_getElem? (i := 2) rfl, (List.forall_mem_cons.mpr ⟨List.mem_of_getElem? (i := 1) rfl, (List.forall_mem_cons.mpr ⟨List.mem_of_getElem? (i := 4) rfl, (List.forall_mem_cons.mpr ⟨List.mem_of_getElem? (i := 5) rfl, (fun _ h => absurd h List.not_mem_nil)⟩)⟩)⟩)⟩)⟩) (ih y8693 1 (A 26 x8563.toNatClampNeg) x8566 (by omega) (by omega) (by omega) (by omega) (by omega) (by omega) (by omega))
        · skip
          refine g_goto (tgt := 76) hk dX1_turnCount_31 (by decide) ?_
          obtain ⟨y8695, ey8695⟩ : ∃ y : Int32, y = x8563 + Int32.ofInt 1 := ⟨_, rfl⟩
          have hy8695 : y8695.toInt = x8563.toInt + 1 := i32_add ey8695 rfl (by decide) (by omega) (by omega)
          refine g_iinc (v := y8695) (lv' := [(4, .int y8695), (5, .int (A 26 x8563.toNatClampNeg)), (3, .int x8564), (2, .int x8565), (1, .int x8566), (0, .ref (q 43))]) hk 1 dX1_turnCount_76 rfl ey8695.symm (by decide) rfl ?_
          refine g_goto (tgt := 9) hk dX1_turnCount_79 (by decide) ?_
          exact g_lv (List.forall_mem_cons.mpr ⟨List.mem_of_getElem? (i := 0) rfl, (List.forall_mem_cons.mpr ⟨List.mem_of_getElem? (i := 2) rfl, (List.forall_mem_cons.mpr ⟨List.mem_of_getElem? (i := 3) rfl, (List.forall_mem_cons.mpr ⟨List.mem_of_getElem? (i := 4) rfl, (List.forall_mem_cons.mpr ⟨List.mem_of_getElem? (i := 5) rfl, (fun _ h => absurd h List.not_mem_nil)⟩)⟩)⟩)⟩)⟩) (ih y8695 x8564 x8565 x8566 (by omega) (by omega) (by omega) (by omega) (by omega) (by omega) (by omega))
  have k8697 : (0 : Int32).toInt = 0 := rfl
  have k8698 : ((-1) : Int32).toInt = (-1) := rfl
  obtain ⟨n8696, n8696a, n8696b⟩ : ∃ n : Nat, 161 - 0 < (n : Int) ∧ 0 < n := ⟨((161 - 0 : Int)).toNat + 1, by omega, by omega⟩
  exact lp8671 n8696 0 0 (-1) 0 (by omega) (by omega) (by omega) (by omega) (by omega) n8696a n8696b
def wo_k289_X11_turns : List Cond := [Cond.fieldLink RX11 35 "WarpDesk" "queries" "LWarpDesk$Queries;", Cond.methodLink RX11 251 yX4_has, Cond.instanceMethod yX4_has, Cond.selects RX4 yX4_has yX4_has, Cond.initialized RX4, Cond.fieldLink RX11 74 "WarpDesk" "finder" "LWarpDesk$Finder;", Cond.methodLink RX11 305 yX1_scan, Cond.instanceMethod yX1_scan, Cond.selects RX1 yX1_scan yX1_scan, Cond.initialized RX1, Cond.methodLink RX11 320 yX1_turnCount, Cond.instanceMethod yX1_turnCount, Cond.selects RX1 yX1_turnCount yX1_turnCount]
def wz_k289_X11_turns : List Cond := .code yX11_turns cX11_turns 2 (some .int) :: (wo_k289_X11_turns ++ (wsX110 ++ (wz_k168_X4_has ++ (wz_k270_X1_scan ++ (wz_k290_X1_turnCount ++ ([] : List Cond))))))
theorem zg_k289_X11_turns : ∀ w ∈ wz_k289_X11_turns, goodWord w = true := zg_cons rfl (zg_app (by decide +kernel) (zg_app zgU_wsX110 (zg_app zg_k168_X4_has (zg_app zg_k270_X1_scan (zg_app zg_k290_X1_turnCount zg_nil)))))
theorem zi_k289_X11_turns : ∀ w ∈ wz_k289_X11_turns, w ∈ lw_tbl := zi_cons zw_1242 (zi_app (zi_cons zw_490 (zi_cons zw_1086 (zi_cons zw_747 (zi_cons zw_748 (zi_cons zw_108 (zi_cons zw_495 (zi_cons zw_1208 (zi_cons zw_1152 (zi_cons zw_1153 (zi_cons zw_113 (zi_cons zw_1243 (zi_cons zw_1244 (zi_cons zw_1245 zi_nil))))))))))))) (zi_app inX11 (zi_app zi_k168_X4_has (zi_app zi_k270_X1_scan (zi_app zi_k290_X1_turnCount zi_nil)))))
set_option maxHeartbeats 4000000 in
set_option maxRecDepth 100000 in
theorem k289_X11_turns (l : Launch) (D : va_G) (zt : Nat × Nat × Nat × (Nat → Nat) × (Nat → Nat)) (q : Nat → Nat) (d : Nat → ClassId) (I : Nat → Int32) (A : Nat → Nat → Int32) (z1 : Int32) (hIv : IvX I A) : GM l D zt (tyX d) yX11_turns wz_k289_X11_turns ({ frames := 6, cells := 0, slots := 0, locals := 131 } : Room) [.ref (q 0), .int z1] (wX q d I A) (fun v _ w' => ∃ (I' : Nat → Int32) (A' : Nat → Nat → Int32), Md [28, 30, 31, 32, 33, 34] I I' ∧ Md [21, 22, 23, 26] A A' ∧ IvX I' A' ∧ ∃ y0 : Int32, v = some (.int y0) ∧ w' = wX q d I' A') 0 0 := by
  refine GM.of (cc := cX11_turns) (maxL := 2) (ret := (some .int)) (own := RX11) (lv := [(0, .ref (q 0)), (1, .int z1)]) (by decide) rfl rfl (Nat.le_of_ble_eq_true rfl) rfl (fun κ sz hk hR hN => ?_)
  have hin11 : ∀ w ∈ u_ws RX11 TX11 10, w ∈ wz_k289_X11_turns := fun w h => (List.mem_cons_of_mem _ (List.mem_append_right _ (List.mem_append_left _ h)))
  refine g_aload_n hk dX11_turns_0 rfl ?_
  refine gX_r0_3 hk hin11 (List.mem_cons_of_mem _ (List.mem_append_left _ (List.mem_of_getElem? (i := 0) rfl))) dX11_turns_1 ?_
  refine g_iload_n hk dX11_turns_4 rfl ?_
  refine g_callV (n := 1) hk (k168_X4_has l D zt q d I A z1 hIv) (SP.same _) (fun _ h => h) (gi_V (List.mem_cons_of_mem _ (List.mem_append_left _ (List.mem_of_getElem? (i := 1) rfl))) (List.mem_cons_of_mem _ (List.mem_append_left _ (List.mem_of_getElem? (i := 2) rfl))) (List.mem_cons_of_mem _ (List.mem_append_left _ (List.mem_of_getElem? (i := 3) rfl))) (List.mem_cons_of_mem _ (List.mem_append_left _ (List.mem_of_getElem? (i := 4) rfl))) (gi_sub (fun w h => (List.mem_cons_of_mem _ (List.mem_append_right _ (List.mem_append_right _ (List.mem_append_left _ h))))) zg_k168_X4_has)) rfl rfl rfl (by decide +kernel) ⟨Nat.le_of_ble_eq_true rfl, Nat.le_of_ble_eq_true rfl⟩ 15 rfl rfl rfl rfl (Nat.le_of_ble_eq_true rfl) ⟨Nat.le_of_ble_eq_true rfl, Nat.le_of_ble_eq_true rfl⟩ dX11_turns_5 (fun v ty' w' hp hk' => ?_)
  rcases hp with ⟨rfl, rfl⟩ | ⟨c8556, c8557, c8558, c8559, rfl, rfl⟩
  · skip
    show GW κ 2 0 0 (wX q d I A) 8 [(0, .ref (q 0)), (1, .int z1)] [.int 0]
    refine g_if_ne (tgt := 13) (a := 0) hk dX11_turns_8 (by decide) rfl (fun z9 => absurd z9 (show ¬ ((0 : Int) ≠ (0 : Int)) from by decide)) (fun _ => ?_)
    refine g_iconst (v := (-1)) hk dX11_turns_11 (by decide) ?_
    exact g_iret hk hR rfl ⟨I, A, (show Md [28, 30, 31, 32, 33, 34] I I from Md.rf), (show Md [21, 22, 23, 26] A A from Md.rf), hIv, (-1), rfl, rfl⟩ dX11_turns_12
  · skip
    show GW κ 2 0 0 (wX q d I A) 8 [(0, .ref (q 0)), (1, .int z1)] [.int 1]
    refine g_if_ne (tgt := 13) (a := 1) hk dX11_turns_8 (by decide) rfl (fun _ => ?_) (fun z9 => absurd (show (1 : Int) ≠ (0 : Int) from by decide) z9)
    refine g_aload_n hk dX11_turns_13 rfl ?_
    refine gX_r0_8 hk hin11 (List.mem_cons_of_mem _ (List.mem_append_left _ (List.mem_of_getElem? (i := 5) rfl))) dX11_turns_14 ?_
    refine g_iload_n hk dX11_turns_17 rfl ?_
    refine g_callV (n := 1) hk (k270_X1_scan l D zt q d I A z1 hIv) (SP.same _) (fun _ h => h) (gi_V (List.mem_cons_of_mem _ (List.mem_append_left _ (List.mem_of_getElem? (i := 6) rfl))) (List.mem_cons_of_mem _ (List.mem_append_left _ (List.mem_of_getElem? (i := 7) rfl))) (List.mem_cons_of_mem _ (List.mem_append_left _ (List.mem_of_getElem? (i := 8) rfl))) (List.mem_cons_of_mem _ (List.mem_append_left _ (List.mem_of_getElem? (i := 9) rfl))) (gi_sub (fun w h => (List.mem_cons_of_mem _ (List.mem_append_right _ (List.mem_append_right _ (List.mem_append_right _ (List.mem_append_left _ h)))))) zg_k270_X1_scan)) rfl rfl rfl (by decide +kernel) ⟨Nat.le_of_ble_eq_true rfl, Nat.le_of_ble_eq_true rfl⟩ 43 rfl rfl rfl rfl (Nat.le_of_ble_eq_true rfl) ⟨Nat.le_of_ble_eq_true rfl, Nat.le_of_ble_eq_true rfl⟩ dX11_turns_18 (fun v ty' w' hp hk' => ?_)
    obtain ⟨I8562, A8562, hI8562, hA8562, hV8562, rfl, rfl⟩ := hp
    show GW κ 2 0 0 (wX q d I8562 A8562) 21 [(0, .ref (q 0)), (1, .int z1)] []
    refine g_aload_n hk dX11_turns_21 rfl ?_
    refine gX_r0_8 hk hin11 (List.mem_cons_of_mem _ (List.mem_append_left _ (List.mem_of_getElem? (i := 5) rfl))) dX11_turns_22 ?_
    refine g_callV (n := 0) hk (k290_X1_turnCount l D zt q d I8562 A8562  hV8562) (SP.same _) (fun _ h => h) (gi_V (List.mem_cons_of_mem _ (List.mem_append_left _ (List.mem_of_getElem? (i := 10) rfl))) (List.mem_cons_of_mem _ (List.mem_append_left _ (List.mem_of_getElem? (i := 11) rfl))) (List.mem_cons_of_mem _ (List.mem_append_left _ (List.mem_of_getElem? (i := 12) rfl))) (List.mem_cons_of_mem _ (List.mem_append_left _ (List.mem_of_getElem? (i := 9) rfl))) (gi_sub (fun w h => (List.mem_cons_of_mem _ (List.mem_append_right _ (List.mem_append_right _ (List.mem_append_right _ (List.mem_append_right _ (List.mem_append_left _ h))))))) zg_k290_X1_turnCount)) rfl rfl rfl (by decide +kernel) ⟨Nat.le_of_ble_eq_true rfl, Nat.le_of_ble_eq_true rfl⟩ 43 rfl rfl rfl rfl (Nat.le_of_ble_eq_true rfl) ⟨Nat.le_of_ble_eq_true rfl, Nat.le_of_ble_eq_true rfl⟩ dX11_turns_25 (fun v ty' w' hp hk' => ?_)
    obtain ⟨y8699, rfl, rfl⟩ := hp
    show GW κ 2 0 0 (wX q d I8562 A8562) 28 [(0, .ref (q 0)), (1, .int z1)] [.int y8699]
    have b8700l := Int32.le_toInt y8699
    have b8700h := Int32.toInt_lt y8699
    exact g_iret hk hR rfl ⟨I8562, A8562, (show Md [28, 30, 31, 32, 33, 34] I I8562 from (Md.tr Md.rf hI8562 rfl)), (show Md [21, 22, 23, 26] A A8562 from (Md.tr Md.rf hA8562 rfl)), hV8562, y8699, rfl, rfl⟩ dX11_turns_28
def wo_k295_X2_copyRow : List Cond := [Cond.fieldLink RX2 24 "WarpDesk$Fit" "length" "I"]
def wz_k295_X2_copyRow : List Cond := .code yX2_copyRow cX2_copyRow 6 none :: (wo_k295_X2_copyRow ++ (wsX20 ++ ([] : List Cond)))
theorem zg_k295_X2_copyRow : ∀ w ∈ wz_k295_X2_copyRow, goodWord w = true := zg_cons rfl (zg_app (by decide +kernel) (zg_app zgU_wsX20 zg_nil))
theorem zi_k295_X2_copyRow : ∀ w ∈ wz_k295_X2_copyRow, w ∈ lw_tbl := zi_cons zw_1268 (zi_app (zi_cons zw_343 zi_nil) (zi_app inX2 zi_nil))
set_option maxHeartbeats 4000000 in
set_option maxRecDepth 100000 in
theorem k295_X2_copyRow (l : Launch) (D : va_G) (zt : Nat × Nat × Nat × (Nat → Nat) × (Nat → Nat)) (q : Nat → Nat) (d : Nat → ClassId) (I : Nat → Int32) (A : Nat → Nat → Int32) (z2 : Int32) (z4 : Int32) (hIv : IvX I A) : GM l D zt (tyX d) yX2_copyRow wz_k295_X2_copyRow ({ frames := 0, cells := 0, slots := 0, locals := 0 } : Room) [.ref (q 38), .ref (q 39), .int z2, .ref (q 50), .int z4] (wX q d I A) (fun v _ w' => ∃ (I' : Nat → Int32) (A' : Nat → Nat → Int32), Md [] I I' ∧ Md [30] A A' ∧ IvX I' A' ∧ v = none ∧ w' = wX q d I' A') 0 0 := by
  refine GM.of (cc := cX2_copyRow) (maxL := 6) (ret := none) (own := RX2) (lv := [(0, .ref (q 38)), (1, .ref (q 39)), (2, .int z2), (3, .ref (q 50)), (4, .int z4)]) (by decide) rfl rfl (Nat.le_of_ble_eq_true rfl) rfl (fun κ sz hk hR hN => ?_)
  have hin2 : ∀ w ∈ u_ws RX2 TX2 10, w ∈ wz_k295_X2_copyRow := fun w h => (List.mem_cons_of_mem _ (List.mem_append_right _ (List.mem_append_left _ h)))
  refine g_iload_n hk dX2_copyRow_0 rfl ?_
  have b8736l := Int32.le_toInt z2
  have b8736h := Int32.toInt_lt z2
  refine g_if_lt (tgt := 32) (a := z2.toInt) hk dX2_copyRow_1 (by decide) rfl (fun c8737 => ?_) (fun c8737 => ?_)
  · skip
    exact g_vret hk hR ⟨I, A, (show Md [] I I from Md.rf), (show Md [30] A A from Md.rf), hIv, rfl, rfl⟩ dX2_copyRow_32
  · skip
    refine g_iload hk dX2_copyRow_4 rfl ?_
    have b8738l := Int32.le_toInt z4
    have b8738h := Int32.toInt_lt z4
    refine g_if_lt (tgt := 32) (a := z4.toInt) hk dX2_copyRow_6 (by decide) rfl (fun c8739 => ?_) (fun c8739 => ?_)
    · skip
      exact g_vret hk hR ⟨I, A, (show Md [] I I from Md.rf), (show Md [30] A A from Md.rf), hIv, rfl, rfl⟩ dX2_copyRow_32
    · skip
      refine g_aload_n hk dX2_copyRow_9 rfl ?_
      refine gX_i30 (v := (I 30)) hk hin2 (List.mem_cons_of_mem _ (List.mem_append_left _ (List.mem_of_getElem? (i := 0) rfl))) dX2_copyRow_10 rfl ?_
      have f8740 := IvX_f30 hIv
      refine g_aload_n hk dX2_copyRow_13 rfl ?_
      refine nX_21 hk dX2_copyRow_14 ?_
      refine g_iload_n hk dX2_copyRow_15 rfl ?_
      refine g_isub hk dX2_copyRow_16 ?_
      refine g_topi (fun y8741 ey8741 => ?_)
      have hy8741 : y8741.toInt = 16 - z2.toInt := i32_sub ey8741 rfl rfl (by omega) (by omega)
      refine g_icmp_gt (tgt := 32) (a := (I 30).toInt) (b := y8741.toInt) hk dX2_copyRow_17 (by decide) rfl rfl (fun c8742 => ?_) (fun c8742 => ?_)
      · skip
        exact g_vret hk hR ⟨I, A, (show Md [] I I from Md.rf), (show Md [30] A A from Md.rf), hIv, rfl, rfl⟩ dX2_copyRow_32
      · skip
        refine g_aload_n hk dX2_copyRow_20 rfl ?_
        refine gX_i30 (v := (I 30)) hk hin2 (List.mem_cons_of_mem _ (List.mem_append_left _ (List.mem_of_getElem? (i := 0) rfl))) dX2_copyRow_21 rfl ?_
        refine g_aload_n hk dX2_copyRow_24 rfl ?_
        refine nX_30 hk dX2_copyRow_25 ?_
        refine g_iload hk dX2_copyRow_26 rfl ?_
        refine g_isub hk dX2_copyRow_28 ?_
        refine g_topi (fun y8743 ey8743 => ?_)
        have hy8743 : y8743.toInt = 2560 - z4.toInt := i32_sub ey8743 rfl rfl (by omega) (by omega)
        refine g_icmp_le (tgt := 33) (a := (I 30).toInt) (b := y8743.toInt) hk dX2_copyRow_29 (by decide) rfl rfl (fun c8744 => ?_) (fun c8744 => ?_)
        · skip
          refine g_iconst (v := 0) hk dX2_copyRow_33 (by decide) ?_
          refine g_istore (lv' := [(5, .int 0), (0, .ref (q 38)), (1, .ref (q 39)), (2, .int z2), (3, .ref (q 50)), (4, .int z4)]) hk dX2_copyRow_34 (by decide) rfl ?_
          have lp8769 : ∀ (n8770 : Nat) (x8745 : Int32) (I8751 : Nat → Int32) (A8751 : Nat → Nat → Int32), (Md [] I I8751) → (Md [30] A A8751) → (IvX I8751 A8751) → (0 ≤ x8745.toInt) → (x8745.toInt ≤ 16) → (17 - x8745.toInt < (n8770 : Int)) → (0 < n8770) → GW κ 6 0 0 (wX q d I8751 A8751) 36 [(5, .int x8745), (0, .ref (q 38)), (1, .ref (q 39)), (2, .int z2), (3, .ref (q 50)), (4, .int z4)] [] := by
            intro n8770
            induction n8770 with
            | zero =>
              intro x8745 I8751 A8751 hI8751 hA8751 hV8751 h8767 h8768 m8771 m8771z
              exact absurd m8771z (Nat.lt_irrefl 0)
            | succ n8770 ih =>
              intro x8745 I8751 A8751 hI8751 hA8751 hV8751 h8767 h8768 m8771 m8771z
              refine g_iload hk dX2_copyRow_36 rfl ?_
              refine g_aload_n hk dX2_copyRow_38 rfl ?_
              refine gX_i30 (v := (I 30)) hk hin2 (List.mem_cons_of_mem _ (List.mem_append_left _ (List.mem_of_getElem? (i := 0) rfl))) dX2_copyRow_39 (hI8751 30 rfl) ?_
              refine g_icmp_ge (tgt := 64) (a := x8745.toInt) (b := (I 30).toInt) hk dX2_copyRow_42 (by decide) rfl rfl (fun c8772 => ?_) (fun c8772 => ?_)
              · skip
                exact g_vret hk hR ⟨I8751, A8751, (show Md [] I I8751 from (Md.tr Md.rf hI8751 rfl)), (show Md [30] A A8751 from (Md.tr Md.rf hA8751 rfl)), hV8751, rfl, rfl⟩ dX2_copyRow_64
              · skip
                refine g_aload_n hk dX2_copyRow_45 rfl ?_
                refine g_iload hk dX2_copyRow_46 rfl ?_
                refine g_iload hk dX2_copyRow_48 rfl ?_
                refine g_iadd hk dX2_copyRow_50 ?_
                refine g_topi (fun y8773 ey8773 => ?_)
                have hy8773 : y8773.toInt = z4.toInt + x8745.toInt := i32_add ey8773 rfl rfl (by omega) (by omega)
                refine g_aload_n hk dX2_copyRow_51 rfl ?_
                refine g_iload_n hk dX2_copyRow_52 rfl ?_
                refine g_iload hk dX2_copyRow_53 rfl ?_
                refine g_iadd hk dX2_copyRow_55 ?_
                refine g_topi (fun y8774 ey8774 => ?_)
                have hy8774 : y8774.toInt = z2.toInt + x8745.toInt := i32_add ey8774 rfl rfl (by omega) (by omega)
                refine lX_21 (v := (A 21 y8774.toNatClampNeg)) hk (vp_in_iff.mpr ⟨by omega, by omega⟩) (congrFun (hA8751 21 rfl) _) dX2_copyRow_56 ?_
                refine sX_30 (j := y8773.toNatClampNeg) hk (vp_in_iff.mpr ⟨by omega, by omega⟩) rfl dX2_copyRow_57 ?_
                obtain ⟨y8775, ey8775⟩ : ∃ y : Int32, y = x8745 + Int32.ofInt 1 := ⟨_, rfl⟩
                have hy8775 : y8775.toInt = x8745.toInt + 1 := i32_add ey8775 rfl (by decide) (by omega) (by omega)
                refine g_iinc (v := y8775) (lv' := [(5, .int y8775), (0, .ref (q 38)), (1, .ref (q 39)), (2, .int z2), (3, .ref (q 50)), (4, .int z4)]) hk 0 dX2_copyRow_58 rfl ey8775.symm (by decide) rfl ?_
                refine g_goto (tgt := 36) hk dX2_copyRow_61 (by decide) ?_
                exact g_lv (List.forall_mem_cons.mpr ⟨List.mem_of_getElem? (i := 0) rfl, (List.forall_mem_cons.mpr ⟨List.mem_of_getElem? (i := 1) rfl, (List.forall_mem_cons.mpr ⟨List.mem_of_getElem? (i := 2) rfl, (List.forall_mem_cons.mpr ⟨List.mem_of_getElem? (i := 3) rfl, (List.forall_mem_cons.mpr ⟨List.mem_of_getElem? (i := 4) rfl, (List.forall_mem_cons.mpr ⟨List.mem_of_getElem? (i := 5) rfl, (fun _ h => absurd h List.not_mem_nil)⟩)⟩)⟩)⟩)⟩)⟩) (ih y8775 I8751 (up3 A8751 30 (y8773.toNatClampNeg) (A 21 y8774.toNatClampNeg)) (show Md [] I I8751 from Md.tr hI8751 (show Md [] I8751 I8751 from Md.rf) rfl) (show Md [30] A (up3 A8751 30 (y8773.toNatClampNeg) (A 21 y8774.toNatClampNeg)) from Md.tr hA8751 (show Md [30] A8751 (up3 A8751 30 (y8773.toNatClampNeg) (A 21 y8774.toNatClampNeg)) from (Md.up3 Md.rf rfl)) rfl) ⟨(IvX_f0 (I := I8751) (A := A8751) hV8751), (IvX_f18 (I := I8751) (A := A8751) hV8751), (IvX_f30 (I := I8751) (A := A8751) hV8751), (IvX_f31 (I := I8751) (A := A8751) hV8751), (IvX_a4 (I := I8751) (A := A8751) hV8751), (IvX_a9 (I := I8751) (A := A8751) hV8751), trivial⟩ (by omega) (by omega) (by omega) (by omega))
          have k8777 : (0 : Int32).toInt = 0 := rfl
          obtain ⟨n8776, n8776a, n8776b⟩ : ∃ n : Nat, 17 - 0 < (n : Int) ∧ 0 < n := ⟨((17 - 0 : Int)).toNat + 1, by omega, by omega⟩
          exact lp8769 n8776 0 I A Md.rf Md.rf hIv (by omega) (by omega) n8776a n8776b
        · skip
          exact g_vret hk hR ⟨I, A, (show Md [] I I from Md.rf), (show Md [30] A A from Md.rf), hIv, rfl, rfl⟩ dX2_copyRow_32
def wo_k294_X2_giveLeft : List Cond := [Cond.fieldLink RX2 9 "WarpDesk$Fit" "left" "[I", Cond.methodLink RX2 46 yX2_copyRow, Cond.instanceMethod yX2_copyRow, Cond.selects RX2 yX2_copyRow yX2_copyRow, Cond.initialized RX2]
def wz_k294_X2_giveLeft : List Cond := .code yX2_giveLeft cX2_giveLeft 3 none :: (wo_k294_X2_giveLeft ++ (wsX20 ++ (wz_k295_X2_copyRow ++ ([] : List Cond))))
theorem zg_k294_X2_giveLeft : ∀ w ∈ wz_k294_X2_giveLeft, goodWord w = true := zg_cons rfl (zg_app (by decide +kernel) (zg_app zgU_wsX20 (zg_app zg_k295_X2_copyRow zg_nil)))
theorem zi_k294_X2_giveLeft : ∀ w ∈ wz_k294_X2_giveLeft, w ∈ lw_tbl := zi_cons zw_1264 (zi_app (zi_cons zw_334 (zi_cons zw_1265 (zi_cons zw_1267 (zi_cons zw_40 (zi_cons zw_112 zi_nil))))) (zi_app inX2 (zi_app zi_k295_X2_copyRow zi_nil)))
set_option maxHeartbeats 4000000 in
set_option maxRecDepth 100000 in
theorem k294_X2_giveLeft (l : Launch) (D : va_G) (zt : Nat × Nat × Nat × (Nat → Nat) × (Nat → Nat)) (q : Nat → Nat) (d : Nat → ClassId) (I : Nat → Int32) (A : Nat → Nat → Int32) (z2 : Int32) (hIv : IvX I A) : GM l D zt (tyX d) yX2_giveLeft wz_k294_X2_giveLeft ({ frames := 1, cells := 0, slots := 0, locals := 25 } : Room) [.ref (q 38), .ref (q 50), .int z2] (wX q d I A) (fun v _ w' => ∃ (I' : Nat → Int32) (A' : Nat → Nat → Int32), Md [] I I' ∧ Md [30] A A' ∧ IvX I' A' ∧ v = none ∧ w' = wX q d I' A') 0 0 := by
  refine GM.of (cc := cX2_giveLeft) (maxL := 3) (ret := none) (own := RX2) (lv := [(0, .ref (q 38)), (1, .ref (q 50)), (2, .int z2)]) (by decide) rfl rfl (Nat.le_of_ble_eq_true rfl) rfl (fun κ sz hk hR hN => ?_)
  have hin2 : ∀ w ∈ u_ws RX2 TX2 10, w ∈ wz_k294_X2_giveLeft := fun w h => (List.mem_cons_of_mem _ (List.mem_append_right _ (List.mem_append_left _ h)))
  refine g_aload_n hk dX2_giveLeft_0 rfl ?_
  refine g_aload_n hk dX2_giveLeft_1 rfl ?_
  refine gX_r38_0 hk hin2 (List.mem_cons_of_mem _ (List.mem_append_left _ (List.mem_of_getElem? (i := 0) rfl))) dX2_giveLeft_2 ?_
  refine g_iconst (v := 0) hk dX2_giveLeft_5 (by decide) ?_
  refine g_aload_n hk dX2_giveLeft_6 rfl ?_
  refine g_iload_n hk dX2_giveLeft_7 rfl ?_
  have k8778 : (0 : Int32).toInt = 0 := rfl
  refine g_callV (n := 4) hk (k295_X2_copyRow l D zt q d I A 0 z2 hIv) (SP.same _) (fun _ h => h) (gi_V (List.mem_cons_of_mem _ (List.mem_append_left _ (List.mem_of_getElem? (i := 1) rfl))) (List.mem_cons_of_mem _ (List.mem_append_left _ (List.mem_of_getElem? (i := 2) rfl))) (List.mem_cons_of_mem _ (List.mem_append_left _ (List.mem_of_getElem? (i := 3) rfl))) (List.mem_cons_of_mem _ (List.mem_append_left _ (List.mem_of_getElem? (i := 4) rfl))) (gi_sub (fun w h => (List.mem_cons_of_mem _ (List.mem_append_right _ (List.mem_append_right _ (List.mem_append_left _ h))))) zg_k295_X2_copyRow)) rfl rfl rfl (by decide +kernel) ⟨Nat.le_of_ble_eq_true rfl, Nat.le_of_ble_eq_true rfl⟩ 38 rfl rfl rfl rfl (Nat.le_of_ble_eq_true rfl) ⟨Nat.le_of_ble_eq_true rfl, Nat.le_of_ble_eq_true rfl⟩ dX2_giveLeft_8 (fun v ty' w' hp hk' => ?_)
  obtain ⟨I8780, A8780, hI8780, hA8780, hV8780, rfl, rfl⟩ := hp
  show GW κ 3 0 0 (wX q d I8780 A8780) 11 [(0, .ref (q 38)), (1, .ref (q 50)), (2, .int z2)] []
  exact g_vret hk hR ⟨I8780, A8780, (show Md [] I I8780 from (Md.tr Md.rf hI8780 rfl)), (show Md [30] A A8780 from (Md.tr Md.rf hA8780 rfl)), hV8780, rfl, rfl⟩ dX2_giveLeft_11
def wo_k293_X9_bringAll : List Cond := [Cond.fieldLink RX9 15 "WarpDesk$Stretches" "isThere" "[Z", Cond.fieldLink RX9 19 "WarpDesk$Stretches" "bench" "LWarpDesk$Bench;", Cond.fieldLink RX9 30 "WarpDesk$Bench" "series" "LWarpDesk$Series;", Cond.methodLink RX9 34 yX6_hasWindow, Cond.instanceMethod yX6_hasWindow, Cond.selects RX6 yX6_hasWindow yX6_hasWindow, Cond.initialized RX6, Cond.methodLink RX9 40 yX0_openWindow, Cond.instanceMethod yX0_openWindow, Cond.selects RX0 yX0_openWindow yX0_openWindow, Cond.initialized RX0, Cond.fieldLink RX9 29 "WarpDesk$Stretches" "fit" "LWarpDesk$Fit;", Cond.fieldLink RX9 9 "WarpDesk$Stretches" "rows" "[I", Cond.methodLink RX9 44 yX2_giveLeft, Cond.instanceMethod yX2_giveLeft, Cond.selects RX2 yX2_giveLeft yX2_giveLeft, Cond.initialized RX2]
def wz_k293_X9_bringAll : List Cond := .code yX9_bringAll cX9_bringAll 3 none :: (wo_k293_X9_bringAll ++ (wsX00 ++ (wsX90 ++ (wz_k207_X6_hasWindow ++ (wz_k213_X0_openWindow ++ (wz_k294_X2_giveLeft ++ ([] : List Cond)))))))
theorem zg_k293_X9_bringAll : ∀ w ∈ wz_k293_X9_bringAll, goodWord w = true := zg_cons rfl (zg_app (by decide +kernel) (zg_app zgU_wsX00 (zg_app zgU_wsX90 (zg_app zg_k207_X6_hasWindow (zg_app zg_k213_X0_openWindow (zg_app zg_k294_X2_giveLeft zg_nil))))))
theorem zi_k293_X9_bringAll : ∀ w ∈ wz_k293_X9_bringAll, w ∈ lw_tbl := zi_cons zw_1258 (zi_app (zi_cons zw_449 (zi_cons zw_446 (zi_cons zw_375 (zi_cons zw_1259 (zi_cons zw_902 (zi_cons zw_903 (zi_cons zw_109 (zi_cons zw_1260 (zi_cons zw_930 (zi_cons zw_931 (zi_cons zw_111 (zi_cons zw_447 (zi_cons zw_448 (zi_cons zw_1261 (zi_cons zw_1262 (zi_cons zw_1263 (zi_cons zw_112 zi_nil))))))))))))))))) (zi_app inX0 (zi_app inX9 (zi_app zi_k207_X6_hasWindow (zi_app zi_k213_X0_openWindow (zi_app zi_k294_X2_giveLeft zi_nil))))))
set_option maxHeartbeats 4000000 in
set_option maxRecDepth 100000 in
theorem k293_X9_bringAll (l : Launch) (D : va_G) (zt : Nat × Nat × Nat × (Nat → Nat) × (Nat → Nat)) (q : Nat → Nat) (d : Nat → ClassId) (I : Nat → Int32) (A : Nat → Nat → Int32) (z1 : Int32) (hIv : IvX I A) : GM l D zt (tyX d) yX9_bringAll wz_k293_X9_bringAll ({ frames := 4, cells := 0, slots := 0, locals := 82 } : Room) [.ref (q 49), .int z1] (wX q d I A) (fun v _ w' => ∃ (I' : Nat → Int32) (A' : Nat → Nat → Int32), Md [28, 30, 31, 32] I I' ∧ Md [21, 30, 31] A A' ∧ IvX I' A' ∧ v = none ∧ w' = wX q d I' A') 0 0 := by
  refine GM.of (cc := cX9_bringAll) (maxL := 3) (ret := none) (own := RX9) (lv := [(0, .ref (q 49)), (1, .int z1)]) (by decide) rfl rfl (Nat.le_of_ble_eq_true rfl) rfl (fun κ sz hk hR hN => ?_)
  have hin0 : ∀ w ∈ u_ws RX0 TX0 5, w ∈ wz_k293_X9_bringAll := fun w h => (List.mem_cons_of_mem _ (List.mem_append_right _ (List.mem_append_left _ h)))
  have hin9 : ∀ w ∈ u_ws RX9 TX9 11, w ∈ wz_k293_X9_bringAll := fun w h => (List.mem_cons_of_mem _ (List.mem_append_right _ (List.mem_append_right _ (List.mem_append_left _ h))))
  refine g_iconst (v := 0) hk dX9_bringAll_0 (by decide) ?_
  refine g_istore_n (lv' := [(2, .int 0), (0, .ref (q 49)), (1, .int z1)]) hk dX9_bringAll_1 (by decide) rfl ?_
  have lp8886 : ∀ (n8887 : Nat) (x8718 : Int32) (I8721 : Nat → Int32) (A8721 : Nat → Nat → Int32), (Md [28, 30, 31, 32] I I8721) → (Md [21, 30, 31] A A8721) → (IvX I8721 A8721) → (0 ≤ x8718.toInt) → (x8718.toInt ≤ 160) → (161 - x8718.toInt < (n8887 : Int)) → (0 < n8887) → GW κ 3 0 0 (wX q d I8721 A8721) 2 [(2, .int x8718), (0, .ref (q 49)), (1, .int z1)] [] := by
    intro n8887
    induction n8887 with
    | zero =>
      intro x8718 I8721 A8721 hI8721 hA8721 hV8721 h8884 h8885 m8888 m8888z
      exact absurd m8888z (Nat.lt_irrefl 0)
    | succ n8887 ih =>
      intro x8718 I8721 A8721 hI8721 hA8721 hV8721 h8884 h8885 m8888 m8888z
      refine g_iload_n hk dX9_bringAll_2 rfl ?_
      refine g_sipush (v := 160) hk dX9_bringAll_3 (by decide) ?_
      refine g_icmp_ge (tgt := 66) (a := x8718.toInt) (b := 160) hk dX9_bringAll_6 (by decide) rfl rfl (fun c8889 => ?_) (fun c8889 => ?_)
      · skip
        exact g_vret hk hR ⟨I8721, A8721, (show Md [28, 30, 31, 32] I I8721 from (Md.tr Md.rf hI8721 rfl)), (show Md [21, 30, 31] A A8721 from (Md.tr Md.rf hA8721 rfl)), hV8721, rfl, rfl⟩ dX9_bringAll_66
      · skip
        refine g_aload_n hk dX9_bringAll_9 rfl ?_
        refine gX_r49_3 hk hin9 (List.mem_cons_of_mem _ (List.mem_append_left _ (List.mem_of_getElem? (i := 0) rfl))) dX9_bringAll_10 ?_
        refine g_iload_n hk dX9_bringAll_13 rfl ?_
        refine g_aload_n hk dX9_bringAll_14 rfl ?_
        refine gX_r49_0 hk hin9 (List.mem_cons_of_mem _ (List.mem_append_left _ (List.mem_of_getElem? (i := 1) rfl))) dX9_bringAll_15 ?_
        refine gX_r37_0 hk hin0 (List.mem_cons_of_mem _ (List.mem_append_left _ (List.mem_of_getElem? (i := 2) rfl))) dX9_bringAll_18 ?_
        refine g_iload_n hk dX9_bringAll_21 rfl ?_
        refine g_iload_n hk dX9_bringAll_22 rfl ?_
        refine g_callV (n := 2) hk (k207_X6_hasWindow l D zt q d I8721 A8721 x8718 z1 hV8721) (SP.same _) (fun _ h => h) (gi_V (List.mem_cons_of_mem _ (List.mem_append_left _ (List.mem_of_getElem? (i := 3) rfl))) (List.mem_cons_of_mem _ (List.mem_append_left _ (List.mem_of_getElem? (i := 4) rfl))) (List.mem_cons_of_mem _ (List.mem_append_left _ (List.mem_of_getElem? (i := 5) rfl))) (List.mem_cons_of_mem _ (List.mem_append_left _ (List.mem_of_getElem? (i := 6) rfl))) (gi_sub (fun w h => (List.mem_cons_of_mem _ (List.mem_append_right _ (List.mem_append_right _ (List.mem_append_right _ (List.mem_append_left _ h)))))) zg_k207_X6_hasWindow)) rfl rfl rfl (by decide +kernel) ⟨Nat.le_of_ble_eq_true rfl, Nat.le_of_ble_eq_true rfl⟩ 13 rfl rfl rfl rfl (Nat.le_of_ble_eq_true rfl) ⟨Nat.le_of_ble_eq_true rfl, Nat.le_of_ble_eq_true rfl⟩ dX9_bringAll_23 (fun v ty' w' hp hk' => ?_)
        rcases hp with ⟨rfl, rfl⟩ | ⟨c8891, c8892, c8893, c8894, c8895, c8896, rfl, rfl⟩
        · skip
          show GW κ 3 0 0 (wX q d I8721 A8721) 26 [(2, .int x8718), (0, .ref (q 49)), (1, .int z1)] [.int 0, .int x8718, .ref (q 51)]
          have k8898 : (0 : Int32).toInt = 0 := rfl
          refine sX_31 (y := (vp_nar .boolean 0)) (j := x8718.toNatClampNeg) hk (vp_in_iff.mpr ⟨by omega, by omega⟩) rfl rfl dX9_bringAll_26 ?_
          refine g_aload_n hk dX9_bringAll_27 rfl ?_
          refine gX_r49_3 hk hin9 (List.mem_cons_of_mem _ (List.mem_append_left _ (List.mem_of_getElem? (i := 0) rfl))) dX9_bringAll_28 ?_
          refine g_iload_n hk dX9_bringAll_31 rfl ?_
          refine lX_31 hk (vp_in_iff.mpr ⟨by omega, by omega⟩) rfl dX9_bringAll_32 ?_
          refine g_topi (fun y8899 ey8899 => ?_)
          have b8900l := Int32.le_toInt y8899
          have b8900h := Int32.toInt_lt y8899
          refine g_if_eq (tgt := 60) (a := y8899.toInt) hk dX9_bringAll_33 (by decide) rfl (fun c8901 => ?_) (fun c8901 => ?_)
          · skip
            obtain ⟨y8902, ey8902⟩ : ∃ y : Int32, y = x8718 + Int32.ofInt 1 := ⟨_, rfl⟩
            have hy8902 : y8902.toInt = x8718.toInt + 1 := i32_add ey8902 rfl (by decide) (by omega) (by omega)
            refine g_iinc (v := y8902) (lv' := [(2, .int y8902), (0, .ref (q 49)), (1, .int z1)]) hk 0 dX9_bringAll_60 rfl ey8902.symm (by decide) rfl ?_
            refine g_goto (tgt := 2) hk dX9_bringAll_63 (by decide) ?_
            exact g_lv (List.forall_mem_cons.mpr ⟨List.mem_of_getElem? (i := 0) rfl, (List.forall_mem_cons.mpr ⟨List.mem_of_getElem? (i := 1) rfl, (List.forall_mem_cons.mpr ⟨List.mem_of_getElem? (i := 2) rfl, (fun _ h => absurd h List.not_mem_nil)⟩)⟩)⟩) (ih y8902 I8721 (up3 A8721 31 (x8718.toNatClampNeg) (vp_nar .boolean 0)) (show Md [28, 30, 31, 32] I I8721 from Md.tr hI8721 (show Md [28, 30, 31, 32] I8721 I8721 from Md.rf) rfl) (show Md [21, 30, 31] A (up3 A8721 31 (x8718.toNatClampNeg) (vp_nar .boolean 0)) from Md.tr hA8721 (show Md [21, 30, 31] A8721 (up3 A8721 31 (x8718.toNatClampNeg) (vp_nar .boolean 0)) from (Md.up3 Md.rf rfl)) rfl) ⟨(IvX_f0 (I := I8721) (A := A8721) hV8721), (IvX_f18 (I := I8721) (A := A8721) hV8721), (IvX_f30 (I := I8721) (A := A8721) hV8721), (IvX_f31 (I := I8721) (A := A8721) hV8721), (IvX_a4 (I := I8721) (A := A8721) hV8721), (IvX_a9 (I := I8721) (A := A8721) hV8721), trivial⟩ (by omega) (by omega) (by omega) (by omega))
          · skip
            refine g_aload_n hk dX9_bringAll_36 rfl ?_
            refine gX_r49_0 hk hin9 (List.mem_cons_of_mem _ (List.mem_append_left _ (List.mem_of_getElem? (i := 1) rfl))) dX9_bringAll_37 ?_
            refine g_iload_n hk dX9_bringAll_40 rfl ?_
            refine g_iload_n hk dX9_bringAll_41 rfl ?_
            refine g_callV (n := 2) hk (k213_X0_openWindow l D zt q d I8721 (up3 A8721 31 (x8718.toNatClampNeg) (vp_nar .boolean 0)) x8718 z1 ⟨(IvX_f0 (I := I8721) (A := A8721) hV8721), (IvX_f18 (I := I8721) (A := A8721) hV8721), (IvX_f30 (I := I8721) (A := A8721) hV8721), (IvX_f31 (I := I8721) (A := A8721) hV8721), (IvX_a4 (I := I8721) (A := A8721) hV8721), (IvX_a9 (I := I8721) (A := A8721) hV8721), trivial⟩) (SP.same _) (fun _ h => h) (gi_V (List.mem_cons_of_mem _ (List.mem_append_left _ (List.mem_of_getElem? (i := 7) rfl))) (List.mem_cons_of_mem _ (List.mem_append_left _ (List.mem_of_getElem? (i := 8) rfl))) (List.mem_cons_of_mem _ (List.mem_append_left _ (List.mem_of_getElem? (i := 9) rfl))) (List.mem_cons_of_mem _ (List.mem_append_left _ (List.mem_of_getElem? (i := 10) rfl))) (gi_sub (fun w h => (List.mem_cons_of_mem _ (List.mem_append_right _ (List.mem_append_right _ (List.mem_append_right _ (List.mem_append_right _ (List.mem_append_left _ h))))))) zg_k213_X0_openWindow)) rfl rfl rfl (by decide +kernel) ⟨Nat.le_of_ble_eq_true rfl, Nat.le_of_ble_eq_true rfl⟩ 37 rfl rfl rfl rfl (Nat.le_of_ble_eq_true rfl) ⟨Nat.le_of_ble_eq_true rfl, Nat.le_of_ble_eq_true rfl⟩ dX9_bringAll_42 (fun v ty' w' hp hk' => ?_)
            obtain ⟨I8904, A8904, hI8904, hA8904, hV8904, rfl, rfl⟩ := hp
            show GW κ 3 0 0 (wX q d I8904 A8904) 45 [(2, .int x8718), (0, .ref (q 49)), (1, .int z1)] []
            refine g_aload_n hk dX9_bringAll_45 rfl ?_
            refine gX_r49_1 hk hin9 (List.mem_cons_of_mem _ (List.mem_append_left _ (List.mem_of_getElem? (i := 11) rfl))) dX9_bringAll_46 ?_
            refine g_aload_n hk dX9_bringAll_49 rfl ?_
            refine gX_r49_2 hk hin9 (List.mem_cons_of_mem _ (List.mem_append_left _ (List.mem_of_getElem? (i := 12) rfl))) dX9_bringAll_50 ?_
            refine g_iload_n hk dX9_bringAll_53 rfl ?_
            refine g_bipush (v := 16) hk dX9_bringAll_54 (by decide) ?_
            refine g_imul hk dX9_bringAll_56 ?_
            refine g_topi (fun y8905 ey8905 => ?_)
            have hy8905 : y8905.toInt = x8718.toInt * 16 := i32_mul ey8905 rfl rfl (by omega) (by omega)
            refine g_callV (n := 2) hk (k294_X2_giveLeft l D zt q d I8904 A8904 y8905 hV8904) (SP.same _) (fun _ h => h) (gi_V (List.mem_cons_of_mem _ (List.mem_append_left _ (List.mem_of_getElem? (i := 13) rfl))) (List.mem_cons_of_mem _ (List.mem_append_left _ (List.mem_of_getElem? (i := 14) rfl))) (List.mem_cons_of_mem _ (List.mem_append_left _ (List.mem_of_getElem? (i := 15) rfl))) (List.mem_cons_of_mem _ (List.mem_append_left _ (List.mem_of_getElem? (i := 16) rfl))) (gi_sub (fun w h => (List.mem_cons_of_mem _ (List.mem_append_right _ (List.mem_append_right _ (List.mem_append_right _ (List.mem_append_right _ (List.mem_append_right _ (List.mem_append_left _ h)))))))) zg_k294_X2_giveLeft)) rfl rfl rfl (by decide +kernel) ⟨Nat.le_of_ble_eq_true rfl, Nat.le_of_ble_eq_true rfl⟩ 38 rfl rfl rfl rfl (Nat.le_of_ble_eq_true rfl) ⟨Nat.le_of_ble_eq_true rfl, Nat.le_of_ble_eq_true rfl⟩ dX9_bringAll_57 (fun v ty' w' hp hk' => ?_)
            obtain ⟨I8907, A8907, hI8907, hA8907, hV8907, rfl, rfl⟩ := hp
            show GW κ 3 0 0 (wX q d I8907 A8907) 60 [(2, .int x8718), (0, .ref (q 49)), (1, .int z1)] []
            obtain ⟨y8908, ey8908⟩ : ∃ y : Int32, y = x8718 + Int32.ofInt 1 := ⟨_, rfl⟩
            have hy8908 : y8908.toInt = x8718.toInt + 1 := i32_add ey8908 rfl (by decide) (by omega) (by omega)
            refine g_iinc (v := y8908) (lv' := [(2, .int y8908), (0, .ref (q 49)), (1, .int z1)]) hk 0 dX9_bringAll_60 rfl ey8908.symm (by decide) rfl ?_
            refine g_goto (tgt := 2) hk dX9_bringAll_63 (by decide) ?_
            exact g_lv (List.forall_mem_cons.mpr ⟨List.mem_of_getElem? (i := 0) rfl, (List.forall_mem_cons.mpr ⟨List.mem_of_getElem? (i := 1) rfl, (List.forall_mem_cons.mpr ⟨List.mem_of_getElem? (i := 2) rfl, (fun _ h => absurd h List.not_mem_nil)⟩)⟩)⟩) (ih y8908 I8907 A8907 (show Md [28, 30, 31, 32] I I8907 from Md.tr hI8721 (show Md [28, 30, 31, 32] I8721 I8907 from (Md.tr (Md.tr Md.rf hI8904 rfl) hI8907 rfl)) rfl) (show Md [21, 30, 31] A A8907 from Md.tr hA8721 (show Md [21, 30, 31] A8721 A8907 from (Md.tr (Md.tr (Md.up3 Md.rf rfl) hA8904 rfl) hA8907 rfl)) rfl) hV8907 (by omega) (by omega) (by omega) (by omega))
        · skip
          show GW κ 3 0 0 (wX q d I8721 A8721) 26 [(2, .int x8718), (0, .ref (q 49)), (1, .int z1)] [.int 1, .int x8718, .ref (q 51)]
          have k8909 : (1 : Int32).toInt = 1 := rfl
          refine sX_31 (y := (vp_nar .boolean 1)) (j := x8718.toNatClampNeg) hk (vp_in_iff.mpr ⟨by omega, by omega⟩) rfl rfl dX9_bringAll_26 ?_
          refine g_aload_n hk dX9_bringAll_27 rfl ?_
          refine gX_r49_3 hk hin9 (List.mem_cons_of_mem _ (List.mem_append_left _ (List.mem_of_getElem? (i := 0) rfl))) dX9_bringAll_28 ?_
          refine g_iload_n hk dX9_bringAll_31 rfl ?_
          refine lX_31 hk (vp_in_iff.mpr ⟨by omega, by omega⟩) rfl dX9_bringAll_32 ?_
          refine g_topi (fun y8910 ey8910 => ?_)
          have b8911l := Int32.le_toInt y8910
          have b8911h := Int32.toInt_lt y8910
          refine g_if_eq (tgt := 60) (a := y8910.toInt) hk dX9_bringAll_33 (by decide) rfl (fun c8912 => ?_) (fun c8912 => ?_)
          · skip
            obtain ⟨y8913, ey8913⟩ : ∃ y : Int32, y = x8718 + Int32.ofInt 1 := ⟨_, rfl⟩
            have hy8913 : y8913.toInt = x8718.toInt + 1 := i32_add ey8913 rfl (by decide) (by omega) (by omega)
            refine g_iinc (v := y8913) (lv' := [(2, .int y8913), (0, .ref (q 49)), (1, .int z1)]) hk 0 dX9_bringAll_60 rfl ey8913.symm (by decide) rfl ?_
            refine g_goto (tgt := 2) hk dX9_bringAll_63 (by decide) ?_
            exact g_lv (List.forall_mem_cons.mpr ⟨List.mem_of_getElem? (i := 0) rfl, (List.forall_mem_cons.mpr ⟨List.mem_of_getElem? (i := 1) rfl, (List.forall_mem_cons.mpr ⟨List.mem_of_getElem? (i := 2) rfl, (fun _ h => absurd h List.not_mem_nil)⟩)⟩)⟩) (ih y8913 I8721 (up3 A8721 31 (x8718.toNatClampNeg) (vp_nar .boolean 1)) (show Md [28, 30, 31, 32] I I8721 from Md.tr hI8721 (show Md [28, 30, 31, 32] I8721 I8721 from Md.rf) rfl) (show Md [21, 30, 31] A (up3 A8721 31 (x8718.toNatClampNeg) (vp_nar .boolean 1)) from Md.tr hA8721 (show Md [21, 30, 31] A8721 (up3 A8721 31 (x8718.toNatClampNeg) (vp_nar .boolean 1)) from (Md.up3 Md.rf rfl)) rfl) ⟨(IvX_f0 (I := I8721) (A := A8721) hV8721), (IvX_f18 (I := I8721) (A := A8721) hV8721), (IvX_f30 (I := I8721) (A := A8721) hV8721), (IvX_f31 (I := I8721) (A := A8721) hV8721), (IvX_a4 (I := I8721) (A := A8721) hV8721), (IvX_a9 (I := I8721) (A := A8721) hV8721), trivial⟩ (by omega) (by omega) (by omega) (by omega))
          · skip
            refine g_aload_n hk dX9_bringAll_36 rfl ?_
            refine gX_r49_0 hk hin9 (List.mem_cons_of_mem _ (List.mem_append_left _ (List.mem_of_getElem? (i := 1) rfl))) dX9_bringAll_37 ?_
            refine g_iload_n hk dX9_bringAll_40 rfl ?_
            refine g_iload_n hk dX9_bringAll_41 rfl ?_
            refine g_callV (n := 2) hk (k213_X0_openWindow l D zt q d I8721 (up3 A8721 31 (x8718.toNatClampNeg) (vp_nar .boolean 1)) x8718 z1 ⟨(IvX_f0 (I := I8721) (A := A8721) hV8721), (IvX_f18 (I := I8721) (A := A8721) hV8721), (IvX_f30 (I := I8721) (A := A8721) hV8721), (IvX_f31 (I := I8721) (A := A8721) hV8721), (IvX_a4 (I := I8721) (A := A8721) hV8721), (IvX_a9 (I := I8721) (A := A8721) hV8721), trivial⟩) (SP.same _) (fun _ h => h) (gi_V (List.mem_cons_of_mem _ (List.mem_append_left _ (List.mem_of_getElem? (i := 7) rfl))) (List.mem_cons_of_mem _ (List.mem_append_left _ (List.mem_of_getElem? (i := 8) rfl))) (List.mem_cons_of_mem _ (List.mem_append_left _ (List.mem_of_getElem? (i := 9) rfl))) (List.mem_cons_of_mem _ (List.mem_append_left _ (List.mem_of_getElem? (i := 10) rfl))) (gi_sub (fun w h => (List.mem_cons_of_mem _ (List.mem_append_right _ (List.mem_append_right _ (List.mem_append_right _ (List.mem_append_right _ (List.mem_append_left _ h))))))) zg_k213_X0_openWindow)) rfl rfl rfl (by decide +kernel) ⟨Nat.le_of_ble_eq_true rfl, Nat.le_of_ble_eq_true rfl⟩ 37 rfl rfl rfl rfl (Nat.le_of_ble_eq_true rfl) ⟨Nat.le_of_ble_eq_true rfl, Nat.le_of_ble_eq_true rfl⟩ dX9_bringAll_42 (fun v ty' w' hp hk' => ?_)
            obtain ⟨I8915, A8915, hI8915, hA8915, hV8915, rfl, rfl⟩ := hp
            show GW κ 3 0 0 (wX q d I8915 A8915) 45 [(2, .int x8718), (0, .ref (q 49)), (1, .int z1)] []
            refine g_aload_n hk dX9_bringAll_45 rfl ?_
            refine gX_r49_1 hk hin9 (List.mem_cons_of_mem _ (List.mem_append_left _ (List.mem_of_getElem? (i := 11) rfl))) dX9_bringAll_46 ?_
            refine g_aload_n hk dX9_bringAll_49 rfl ?_
            refine gX_r49_2 hk hin9 (List.mem_cons_of_mem _ (List.mem_append_left _ (List.mem_of_getElem? (i := 12) rfl))) dX9_bringAll_50 ?_
            refine g_iload_n hk dX9_bringAll_53 rfl ?_
            refine g_bipush (v := 16) hk dX9_bringAll_54 (by decide) ?_
            refine g_imul hk dX9_bringAll_56 ?_
            refine g_topi (fun y8916 ey8916 => ?_)
            have hy8916 : y8916.toInt = x8718.toInt * 16 := i32_mul ey8916 rfl rfl (by omega) (by omega)
            refine g_callV (n := 2) hk (k294_X2_giveLeft l D zt q d I8915 A8915 y8916 hV8915) (SP.same _) (fun _ h => h) (gi_V (List.mem_cons_of_mem _ (List.mem_append_left _ (List.mem_of_getElem? (i := 13) rfl))) (List.mem_cons_of_mem _ (List.mem_append_left _ (List.mem_of_getElem? (i := 14) rfl))) (List.mem_cons_of_mem _ (List.mem_append_left _ (List.mem_of_getElem? (i := 15) rfl))) (List.mem_cons_of_mem _ (List.mem_append_left _ (List.mem_of_getElem? (i := 16) rfl))) (gi_sub (fun w h => (List.mem_cons_of_mem _ (List.mem_append_right _ (List.mem_append_right _ (List.mem_append_right _ (List.mem_append_right _ (List.mem_append_right _ (List.mem_append_left _ h)))))))) zg_k294_X2_giveLeft)) rfl rfl rfl (by decide +kernel) ⟨Nat.le_of_ble_eq_true rfl, Nat.le_of_ble_eq_true rfl⟩ 38 rfl rfl rfl rfl (Nat.le_of_ble_eq_true rfl) ⟨Nat.le_of_ble_eq_true rfl, Nat.le_of_ble_eq_true rfl⟩ dX9_bringAll_57 (fun v ty' w' hp hk' => ?_)
            obtain ⟨I8918, A8918, hI8918, hA8918, hV8918, rfl, rfl⟩ := hp
            show GW κ 3 0 0 (wX q d I8918 A8918) 60 [(2, .int x8718), (0, .ref (q 49)), (1, .int z1)] []
            obtain ⟨y8919, ey8919⟩ : ∃ y : Int32, y = x8718 + Int32.ofInt 1 := ⟨_, rfl⟩
            have hy8919 : y8919.toInt = x8718.toInt + 1 := i32_add ey8919 rfl (by decide) (by omega) (by omega)
            refine g_iinc (v := y8919) (lv' := [(2, .int y8919), (0, .ref (q 49)), (1, .int z1)]) hk 0 dX9_bringAll_60 rfl ey8919.symm (by decide) rfl ?_
            refine g_goto (tgt := 2) hk dX9_bringAll_63 (by decide) ?_
            exact g_lv (List.forall_mem_cons.mpr ⟨List.mem_of_getElem? (i := 0) rfl, (List.forall_mem_cons.mpr ⟨List.mem_of_getElem? (i := 1) rfl, (List.forall_mem_cons.mpr ⟨List.mem_of_getElem? (i := 2) rfl, (fun _ h => absurd h List.not_mem_nil)⟩)⟩)⟩) (ih y8919 I8918 A8918 (show Md [28, 30, 31, 32] I I8918 from Md.tr hI8721 (show Md [28, 30, 31, 32] I8721 I8918 from (Md.tr (Md.tr Md.rf hI8915 rfl) hI8918 rfl)) rfl) (show Md [21, 30, 31] A A8918 from Md.tr hA8721 (show Md [21, 30, 31] A8721 A8918 from (Md.tr (Md.tr (Md.up3 Md.rf rfl) hA8915 rfl) hA8918 rfl)) rfl) hV8918 (by omega) (by omega) (by omega) (by omega))
  have k8921 : (0 : Int32).toInt = 0 := rfl
  obtain ⟨n8920, n8920a, n8920b⟩ : ∃ n : Nat, 161 - 0 < (n : Int) ∧ 0 < n := ⟨((161 - 0 : Int)).toNat + 1, by omega, by omega⟩
  exact lp8886 n8920 0 I A Md.rf Md.rf hIv (by omega) (by omega) n8920a n8920b
def wo_k298_X2_copyRow : List Cond := [Cond.fieldLink RX2 24 "WarpDesk$Fit" "length" "I"]
def wz_k298_X2_copyRow : List Cond := .code yX2_copyRow cX2_copyRow 6 none :: (wo_k298_X2_copyRow ++ (wsX20 ++ ([] : List Cond)))
theorem zg_k298_X2_copyRow : ∀ w ∈ wz_k298_X2_copyRow, goodWord w = true := zg_cons rfl (zg_app (by decide +kernel) (zg_app zgU_wsX20 zg_nil))
theorem zi_k298_X2_copyRow : ∀ w ∈ wz_k298_X2_copyRow, w ∈ lw_tbl := zi_cons zw_1268 (zi_app (zi_cons zw_343 zi_nil) (zi_app inX2 zi_nil))
set_option maxHeartbeats 4000000 in
set_option maxRecDepth 100000 in
theorem k298_X2_copyRow (l : Launch) (D : va_G) (zt : Nat × Nat × Nat × (Nat → Nat) × (Nat → Nat)) (q : Nat → Nat) (d : Nat → ClassId) (I : Nat → Int32) (A : Nat → Nat → Int32) (z2 : Int32) (z4 : Int32) (hIv : IvX I A) : GM l D zt (tyX d) yX2_copyRow wz_k298_X2_copyRow ({ frames := 0, cells := 0, slots := 0, locals := 0 } : Room) [.ref (q 38), .ref (q 50), .int z2, .ref (q 39), .int z4] (wX q d I A) (fun v _ w' => ∃ (I' : Nat → Int32) (A' : Nat → Nat → Int32), Md [] I I' ∧ Md [21] A A' ∧ IvX I' A' ∧ v = none ∧ w' = wX q d I' A') 0 0 := by
  refine GM.of (cc := cX2_copyRow) (maxL := 6) (ret := none) (own := RX2) (lv := [(0, .ref (q 38)), (1, .ref (q 50)), (2, .int z2), (3, .ref (q 39)), (4, .int z4)]) (by decide) rfl rfl (Nat.le_of_ble_eq_true rfl) rfl (fun κ sz hk hR hN => ?_)
  have hin2 : ∀ w ∈ u_ws RX2 TX2 10, w ∈ wz_k298_X2_copyRow := fun w h => (List.mem_cons_of_mem _ (List.mem_append_right _ (List.mem_append_left _ h)))
  refine g_iload_n hk dX2_copyRow_0 rfl ?_
  have b8926l := Int32.le_toInt z2
  have b8926h := Int32.toInt_lt z2
  refine g_if_lt (tgt := 32) (a := z2.toInt) hk dX2_copyRow_1 (by decide) rfl (fun c8927 => ?_) (fun c8927 => ?_)
  · skip
    exact g_vret hk hR ⟨I, A, (show Md [] I I from Md.rf), (show Md [21] A A from Md.rf), hIv, rfl, rfl⟩ dX2_copyRow_32
  · skip
    refine g_iload hk dX2_copyRow_4 rfl ?_
    have b8928l := Int32.le_toInt z4
    have b8928h := Int32.toInt_lt z4
    refine g_if_lt (tgt := 32) (a := z4.toInt) hk dX2_copyRow_6 (by decide) rfl (fun c8929 => ?_) (fun c8929 => ?_)
    · skip
      exact g_vret hk hR ⟨I, A, (show Md [] I I from Md.rf), (show Md [21] A A from Md.rf), hIv, rfl, rfl⟩ dX2_copyRow_32
    · skip
      refine g_aload_n hk dX2_copyRow_9 rfl ?_
      refine gX_i30 (v := (I 30)) hk hin2 (List.mem_cons_of_mem _ (List.mem_append_left _ (List.mem_of_getElem? (i := 0) rfl))) dX2_copyRow_10 rfl ?_
      have f8930 := IvX_f30 hIv
      refine g_aload_n hk dX2_copyRow_13 rfl ?_
      refine nX_30 hk dX2_copyRow_14 ?_
      refine g_iload_n hk dX2_copyRow_15 rfl ?_
      refine g_isub hk dX2_copyRow_16 ?_
      refine g_topi (fun y8931 ey8931 => ?_)
      have hy8931 : y8931.toInt = 2560 - z2.toInt := i32_sub ey8931 rfl rfl (by omega) (by omega)
      refine g_icmp_gt (tgt := 32) (a := (I 30).toInt) (b := y8931.toInt) hk dX2_copyRow_17 (by decide) rfl rfl (fun c8932 => ?_) (fun c8932 => ?_)
      · skip
        exact g_vret hk hR ⟨I, A, (show Md [] I I from Md.rf), (show Md [21] A A from Md.rf), hIv, rfl, rfl⟩ dX2_copyRow_32
      · skip
        refine g_aload_n hk dX2_copyRow_20 rfl ?_
        refine gX_i30 (v := (I 30)) hk hin2 (List.mem_cons_of_mem _ (List.mem_append_left _ (List.mem_of_getElem? (i := 0) rfl))) dX2_copyRow_21 rfl ?_
        refine g_aload_n hk dX2_copyRow_24 rfl ?_
        refine nX_21 hk dX2_copyRow_25 ?_
        refine g_iload hk dX2_copyRow_26 rfl ?_
        refine g_isub hk dX2_copyRow_28 ?_
        refine g_topi (fun y8933 ey8933 => ?_)
        have hy8933 : y8933.toInt = 16 - z4.toInt := i32_sub ey8933 rfl rfl (by omega) (by omega)
        refine g_icmp_le (tgt := 33) (a := (I 30).toInt) (b := y8933.toInt) hk dX2_copyRow_29 (by decide) rfl rfl (fun c8934 => ?_) (fun c8934 => ?_)
        · skip
          refine g_iconst (v := 0) hk dX2_copyRow_33 (by decide) ?_
          refine g_istore (lv' := [(5, .int 0), (0, .ref (q 38)), (1, .ref (q 50)), (2, .int z2), (3, .ref (q 39)), (4, .int z4)]) hk dX2_copyRow_34 (by decide) rfl ?_
          have lp8959 : ∀ (n8960 : Nat) (x8935 : Int32) (I8941 : Nat → Int32) (A8941 : Nat → Nat → Int32), (Md [] I I8941) → (Md [21] A A8941) → (IvX I8941 A8941) → (0 ≤ x8935.toInt) → (x8935.toInt ≤ 16) → (17 - x8935.toInt < (n8960 : Int)) → (0 < n8960) → GW κ 6 0 0 (wX q d I8941 A8941) 36 [(5, .int x8935), (0, .ref (q 38)), (1, .ref (q 50)), (2, .int z2), (3, .ref (q 39)), (4, .int z4)] [] := by
            intro n8960
            induction n8960 with
            | zero =>
              intro x8935 I8941 A8941 hI8941 hA8941 hV8941 h8957 h8958 m8961 m8961z
              exact absurd m8961z (Nat.lt_irrefl 0)
            | succ n8960 ih =>
              intro x8935 I8941 A8941 hI8941 hA8941 hV8941 h8957 h8958 m8961 m8961z
              refine g_iload hk dX2_copyRow_36 rfl ?_
              refine g_aload_n hk dX2_copyRow_38 rfl ?_
              refine gX_i30 (v := (I 30)) hk hin2 (List.mem_cons_of_mem _ (List.mem_append_left _ (List.mem_of_getElem? (i := 0) rfl))) dX2_copyRow_39 (hI8941 30 rfl) ?_
              refine g_icmp_ge (tgt := 64) (a := x8935.toInt) (b := (I 30).toInt) hk dX2_copyRow_42 (by decide) rfl rfl (fun c8962 => ?_) (fun c8962 => ?_)
              · skip
                exact g_vret hk hR ⟨I8941, A8941, (show Md [] I I8941 from (Md.tr Md.rf hI8941 rfl)), (show Md [21] A A8941 from (Md.tr Md.rf hA8941 rfl)), hV8941, rfl, rfl⟩ dX2_copyRow_64
              · skip
                refine g_aload_n hk dX2_copyRow_45 rfl ?_
                refine g_iload hk dX2_copyRow_46 rfl ?_
                refine g_iload hk dX2_copyRow_48 rfl ?_
                refine g_iadd hk dX2_copyRow_50 ?_
                refine g_topi (fun y8963 ey8963 => ?_)
                have hy8963 : y8963.toInt = z4.toInt + x8935.toInt := i32_add ey8963 rfl rfl (by omega) (by omega)
                refine g_aload_n hk dX2_copyRow_51 rfl ?_
                refine g_iload_n hk dX2_copyRow_52 rfl ?_
                refine g_iload hk dX2_copyRow_53 rfl ?_
                refine g_iadd hk dX2_copyRow_55 ?_
                refine g_topi (fun y8964 ey8964 => ?_)
                have hy8964 : y8964.toInt = z2.toInt + x8935.toInt := i32_add ey8964 rfl rfl (by omega) (by omega)
                refine lX_30 (v := (A 30 y8964.toNatClampNeg)) hk (vp_in_iff.mpr ⟨by omega, by omega⟩) (congrFun (hA8941 30 rfl) _) dX2_copyRow_56 ?_
                refine sX_21 (j := y8963.toNatClampNeg) hk (vp_in_iff.mpr ⟨by omega, by omega⟩) rfl dX2_copyRow_57 ?_
                obtain ⟨y8965, ey8965⟩ : ∃ y : Int32, y = x8935 + Int32.ofInt 1 := ⟨_, rfl⟩
                have hy8965 : y8965.toInt = x8935.toInt + 1 := i32_add ey8965 rfl (by decide) (by omega) (by omega)
                refine g_iinc (v := y8965) (lv' := [(5, .int y8965), (0, .ref (q 38)), (1, .ref (q 50)), (2, .int z2), (3, .ref (q 39)), (4, .int z4)]) hk 0 dX2_copyRow_58 rfl ey8965.symm (by decide) rfl ?_
                refine g_goto (tgt := 36) hk dX2_copyRow_61 (by decide) ?_
                exact g_lv (List.forall_mem_cons.mpr ⟨List.mem_of_getElem? (i := 0) rfl, (List.forall_mem_cons.mpr ⟨List.mem_of_getElem? (i := 1) rfl, (List.forall_mem_cons.mpr ⟨List.mem_of_getElem? (i := 2) rfl, (List.forall_mem_cons.mpr ⟨List.mem_of_getElem? (i := 3) rfl, (List.forall_mem_cons.mpr ⟨List.mem_of_getElem? (i := 4) rfl, (List.forall_mem_cons.mpr ⟨List.mem_of_getElem? (i := 5) rfl, (fun _ h => absurd h List.not_mem_nil)⟩)⟩)⟩)⟩)⟩)⟩) (ih y8965 I8941 (up3 A8941 21 (y8963.toNatClampNeg) (A 30 y8964.toNatClampNeg)) (show Md [] I I8941 from Md.tr hI8941 (show Md [] I8941 I8941 from Md.rf) rfl) (show Md [21] A (up3 A8941 21 (y8963.toNatClampNeg) (A 30 y8964.toNatClampNeg)) from Md.tr hA8941 (show Md [21] A8941 (up3 A8941 21 (y8963.toNatClampNeg) (A 30 y8964.toNatClampNeg)) from (Md.up3 Md.rf rfl)) rfl) ⟨(IvX_f0 (I := I8941) (A := A8941) hV8941), (IvX_f18 (I := I8941) (A := A8941) hV8941), (IvX_f30 (I := I8941) (A := A8941) hV8941), (IvX_f31 (I := I8941) (A := A8941) hV8941), (IvX_a4 (I := I8941) (A := A8941) hV8941), (IvX_a9 (I := I8941) (A := A8941) hV8941), trivial⟩ (by omega) (by omega) (by omega) (by omega))
          have k8967 : (0 : Int32).toInt = 0 := rfl
          obtain ⟨n8966, n8966a, n8966b⟩ : ∃ n : Nat, 17 - 0 < (n : Int) ∧ 0 < n := ⟨((17 - 0 : Int)).toNat + 1, by omega, by omega⟩
          exact lp8959 n8966 0 I A Md.rf Md.rf hIv (by omega) (by omega) n8966a n8966b
        · skip
          exact g_vret hk hR ⟨I, A, (show Md [] I I from Md.rf), (show Md [21] A A from Md.rf), hIv, rfl, rfl⟩ dX2_copyRow_32
def wo_k297_X2_takeLeft : List Cond := [Cond.fieldLink RX2 9 "WarpDesk$Fit" "left" "[I", Cond.methodLink RX2 46 yX2_copyRow, Cond.instanceMethod yX2_copyRow, Cond.selects RX2 yX2_copyRow yX2_copyRow, Cond.initialized RX2]
def wz_k297_X2_takeLeft : List Cond := .code yX2_takeLeft cX2_takeLeft 3 none :: (wo_k297_X2_takeLeft ++ (wsX20 ++ (wz_k298_X2_copyRow ++ ([] : List Cond))))
theorem zg_k297_X2_takeLeft : ∀ w ∈ wz_k297_X2_takeLeft, goodWord w = true := zg_cons rfl (zg_app (by decide +kernel) (zg_app zgU_wsX20 (zg_app zg_k298_X2_copyRow zg_nil)))
theorem zi_k297_X2_takeLeft : ∀ w ∈ wz_k297_X2_takeLeft, w ∈ lw_tbl := zi_cons zw_1277 (zi_app (zi_cons zw_334 (zi_cons zw_1265 (zi_cons zw_1267 (zi_cons zw_40 (zi_cons zw_112 zi_nil))))) (zi_app inX2 (zi_app zi_k298_X2_copyRow zi_nil)))
set_option maxHeartbeats 4000000 in
set_option maxRecDepth 100000 in
theorem k297_X2_takeLeft (l : Launch) (D : va_G) (zt : Nat × Nat × Nat × (Nat → Nat) × (Nat → Nat)) (q : Nat → Nat) (d : Nat → ClassId) (I : Nat → Int32) (A : Nat → Nat → Int32) (z2 : Int32) (hIv : IvX I A) : GM l D zt (tyX d) yX2_takeLeft wz_k297_X2_takeLeft ({ frames := 1, cells := 0, slots := 0, locals := 25 } : Room) [.ref (q 38), .ref (q 50), .int z2] (wX q d I A) (fun v _ w' => ∃ (I' : Nat → Int32) (A' : Nat → Nat → Int32), Md [] I I' ∧ Md [21] A A' ∧ IvX I' A' ∧ v = none ∧ w' = wX q d I' A') 0 0 := by
  refine GM.of (cc := cX2_takeLeft) (maxL := 3) (ret := none) (own := RX2) (lv := [(0, .ref (q 38)), (1, .ref (q 50)), (2, .int z2)]) (by decide) rfl rfl (Nat.le_of_ble_eq_true rfl) rfl (fun κ sz hk hR hN => ?_)
  have hin2 : ∀ w ∈ u_ws RX2 TX2 10, w ∈ wz_k297_X2_takeLeft := fun w h => (List.mem_cons_of_mem _ (List.mem_append_right _ (List.mem_append_left _ h)))
  refine g_aload_n hk dX2_takeLeft_0 rfl ?_
  refine g_aload_n hk dX2_takeLeft_1 rfl ?_
  refine g_iload_n hk dX2_takeLeft_2 rfl ?_
  refine g_aload_n hk dX2_takeLeft_3 rfl ?_
  refine gX_r38_0 hk hin2 (List.mem_cons_of_mem _ (List.mem_append_left _ (List.mem_of_getElem? (i := 0) rfl))) dX2_takeLeft_4 ?_
  refine g_iconst (v := 0) hk dX2_takeLeft_7 (by decide) ?_
  have k8968 : (0 : Int32).toInt = 0 := rfl
  refine g_callV (n := 4) hk (k298_X2_copyRow l D zt q d I A z2 0 hIv) (SP.same _) (fun _ h => h) (gi_V (List.mem_cons_of_mem _ (List.mem_append_left _ (List.mem_of_getElem? (i := 1) rfl))) (List.mem_cons_of_mem _ (List.mem_append_left _ (List.mem_of_getElem? (i := 2) rfl))) (List.mem_cons_of_mem _ (List.mem_append_left _ (List.mem_of_getElem? (i := 3) rfl))) (List.mem_cons_of_mem _ (List.mem_append_left _ (List.mem_of_getElem? (i := 4) rfl))) (gi_sub (fun w h => (List.mem_cons_of_mem _ (List.mem_append_right _ (List.mem_append_right _ (List.mem_append_left _ h))))) zg_k298_X2_copyRow)) rfl rfl rfl (by decide +kernel) ⟨Nat.le_of_ble_eq_true rfl, Nat.le_of_ble_eq_true rfl⟩ 38 rfl rfl rfl rfl (Nat.le_of_ble_eq_true rfl) ⟨Nat.le_of_ble_eq_true rfl, Nat.le_of_ble_eq_true rfl⟩ dX2_takeLeft_8 (fun v ty' w' hp hk' => ?_)
  obtain ⟨I8970, A8970, hI8970, hA8970, hV8970, rfl, rfl⟩ := hp
  show GW κ 3 0 0 (wX q d I8970 A8970) 11 [(0, .ref (q 38)), (1, .ref (q 50)), (2, .int z2)] []
  exact g_vret hk hR ⟨I8970, A8970, (show Md [] I I8970 from (Md.tr Md.rf hI8970 rfl)), (show Md [21] A A8970 from (Md.tr Md.rf hA8970 rfl)), hV8970, rfl, rfl⟩ dX2_takeLeft_11
def wo_k300_X2_copyRow : List Cond := [Cond.fieldLink RX2 24 "WarpDesk$Fit" "length" "I"]
def wz_k300_X2_copyRow : List Cond := .code yX2_copyRow cX2_copyRow 6 none :: (wo_k300_X2_copyRow ++ (wsX20 ++ ([] : List Cond)))
theorem zg_k300_X2_copyRow : ∀ w ∈ wz_k300_X2_copyRow, goodWord w = true := zg_cons rfl (zg_app (by decide +kernel) (zg_app zgU_wsX20 zg_nil))
theorem zi_k300_X2_copyRow : ∀ w ∈ wz_k300_X2_copyRow, w ∈ lw_tbl := zi_cons zw_1268 (zi_app (zi_cons zw_343 zi_nil) (zi_app inX2 zi_nil))
set_option maxHeartbeats 4000000 in
set_option maxRecDepth 100000 in
theorem k300_X2_copyRow (l : Launch) (D : va_G) (zt : Nat × Nat × Nat × (Nat → Nat) × (Nat → Nat)) (q : Nat → Nat) (d : Nat → ClassId) (I : Nat → Int32) (A : Nat → Nat → Int32) (z2 : Int32) (z4 : Int32) (hIv : IvX I A) : GM l D zt (tyX d) yX2_copyRow wz_k300_X2_copyRow ({ frames := 0, cells := 0, slots := 0, locals := 0 } : Room) [.ref (q 38), .ref (q 50), .int z2, .ref (q 40), .int z4] (wX q d I A) (fun v _ w' => ∃ (I' : Nat → Int32) (A' : Nat → Nat → Int32), Md [] I I' ∧ Md [22] A A' ∧ IvX I' A' ∧ v = none ∧ w' = wX q d I' A') 0 0 := by
  refine GM.of (cc := cX2_copyRow) (maxL := 6) (ret := none) (own := RX2) (lv := [(0, .ref (q 38)), (1, .ref (q 50)), (2, .int z2), (3, .ref (q 40)), (4, .int z4)]) (by decide) rfl rfl (Nat.le_of_ble_eq_true rfl) rfl (fun κ sz hk hR hN => ?_)
  have hin2 : ∀ w ∈ u_ws RX2 TX2 10, w ∈ wz_k300_X2_copyRow := fun w h => (List.mem_cons_of_mem _ (List.mem_append_right _ (List.mem_append_left _ h)))
  refine g_iload_n hk dX2_copyRow_0 rfl ?_
  have b8990l := Int32.le_toInt z2
  have b8990h := Int32.toInt_lt z2
  refine g_if_lt (tgt := 32) (a := z2.toInt) hk dX2_copyRow_1 (by decide) rfl (fun c8991 => ?_) (fun c8991 => ?_)
  · skip
    exact g_vret hk hR ⟨I, A, (show Md [] I I from Md.rf), (show Md [22] A A from Md.rf), hIv, rfl, rfl⟩ dX2_copyRow_32
  · skip
    refine g_iload hk dX2_copyRow_4 rfl ?_
    have b8992l := Int32.le_toInt z4
    have b8992h := Int32.toInt_lt z4
    refine g_if_lt (tgt := 32) (a := z4.toInt) hk dX2_copyRow_6 (by decide) rfl (fun c8993 => ?_) (fun c8993 => ?_)
    · skip
      exact g_vret hk hR ⟨I, A, (show Md [] I I from Md.rf), (show Md [22] A A from Md.rf), hIv, rfl, rfl⟩ dX2_copyRow_32
    · skip
      refine g_aload_n hk dX2_copyRow_9 rfl ?_
      refine gX_i30 (v := (I 30)) hk hin2 (List.mem_cons_of_mem _ (List.mem_append_left _ (List.mem_of_getElem? (i := 0) rfl))) dX2_copyRow_10 rfl ?_
      have f8994 := IvX_f30 hIv
      refine g_aload_n hk dX2_copyRow_13 rfl ?_
      refine nX_30 hk dX2_copyRow_14 ?_
      refine g_iload_n hk dX2_copyRow_15 rfl ?_
      refine g_isub hk dX2_copyRow_16 ?_
      refine g_topi (fun y8995 ey8995 => ?_)
      have hy8995 : y8995.toInt = 2560 - z2.toInt := i32_sub ey8995 rfl rfl (by omega) (by omega)
      refine g_icmp_gt (tgt := 32) (a := (I 30).toInt) (b := y8995.toInt) hk dX2_copyRow_17 (by decide) rfl rfl (fun c8996 => ?_) (fun c8996 => ?_)
      · skip
        exact g_vret hk hR ⟨I, A, (show Md [] I I from Md.rf), (show Md [22] A A from Md.rf), hIv, rfl, rfl⟩ dX2_copyRow_32
      · skip
        refine g_aload_n hk dX2_copyRow_20 rfl ?_
        refine gX_i30 (v := (I 30)) hk hin2 (List.mem_cons_of_mem _ (List.mem_append_left _ (List.mem_of_getElem? (i := 0) rfl))) dX2_copyRow_21 rfl ?_
        refine g_aload_n hk dX2_copyRow_24 rfl ?_
        refine nX_22 hk dX2_copyRow_25 ?_
        refine g_iload hk dX2_copyRow_26 rfl ?_
        refine g_isub hk dX2_copyRow_28 ?_
        refine g_topi (fun y8997 ey8997 => ?_)
        have hy8997 : y8997.toInt = 16 - z4.toInt := i32_sub ey8997 rfl rfl (by omega) (by omega)
        refine g_icmp_le (tgt := 33) (a := (I 30).toInt) (b := y8997.toInt) hk dX2_copyRow_29 (by decide) rfl rfl (fun c8998 => ?_) (fun c8998 => ?_)
        · skip
          refine g_iconst (v := 0) hk dX2_copyRow_33 (by decide) ?_
          refine g_istore (lv' := [(5, .int 0), (0, .ref (q 38)), (1, .ref (q 50)), (2, .int z2), (3, .ref (q 40)), (4, .int z4)]) hk dX2_copyRow_34 (by decide) rfl ?_
          have lp9023 : ∀ (n9024 : Nat) (x8999 : Int32) (I9005 : Nat → Int32) (A9005 : Nat → Nat → Int32), (Md [] I I9005) → (Md [22] A A9005) → (IvX I9005 A9005) → (0 ≤ x8999.toInt) → (x8999.toInt ≤ 16) → (17 - x8999.toInt < (n9024 : Int)) → (0 < n9024) → GW κ 6 0 0 (wX q d I9005 A9005) 36 [(5, .int x8999), (0, .ref (q 38)), (1, .ref (q 50)), (2, .int z2), (3, .ref (q 40)), (4, .int z4)] [] := by
            intro n9024
            induction n9024 with
            | zero =>
              intro x8999 I9005 A9005 hI9005 hA9005 hV9005 h9021 h9022 m9025 m9025z
              exact absurd m9025z (Nat.lt_irrefl 0)
            | succ n9024 ih =>
              intro x8999 I9005 A9005 hI9005 hA9005 hV9005 h9021 h9022 m9025 m9025z
              refine g_iload hk dX2_copyRow_36 rfl ?_
              refine g_aload_n hk dX2_copyRow_38 rfl ?_
              refine gX_i30 (v := (I 30)) hk hin2 (List.mem_cons_of_mem _ (List.mem_append_left _ (List.mem_of_getElem? (i := 0) rfl))) dX2_copyRow_39 (hI9005 30 rfl) ?_
              refine g_icmp_ge (tgt := 64) (a := x8999.toInt) (b := (I 30).toInt) hk dX2_copyRow_42 (by decide) rfl rfl (fun c9026 => ?_) (fun c9026 => ?_)
              · skip
                exact g_vret hk hR ⟨I9005, A9005, (show Md [] I I9005 from (Md.tr Md.rf hI9005 rfl)), (show Md [22] A A9005 from (Md.tr Md.rf hA9005 rfl)), hV9005, rfl, rfl⟩ dX2_copyRow_64
              · skip
                refine g_aload_n hk dX2_copyRow_45 rfl ?_
                refine g_iload hk dX2_copyRow_46 rfl ?_
                refine g_iload hk dX2_copyRow_48 rfl ?_
                refine g_iadd hk dX2_copyRow_50 ?_
                refine g_topi (fun y9027 ey9027 => ?_)
                have hy9027 : y9027.toInt = z4.toInt + x8999.toInt := i32_add ey9027 rfl rfl (by omega) (by omega)
                refine g_aload_n hk dX2_copyRow_51 rfl ?_
                refine g_iload_n hk dX2_copyRow_52 rfl ?_
                refine g_iload hk dX2_copyRow_53 rfl ?_
                refine g_iadd hk dX2_copyRow_55 ?_
                refine g_topi (fun y9028 ey9028 => ?_)
                have hy9028 : y9028.toInt = z2.toInt + x8999.toInt := i32_add ey9028 rfl rfl (by omega) (by omega)
                refine lX_30 (v := (A 30 y9028.toNatClampNeg)) hk (vp_in_iff.mpr ⟨by omega, by omega⟩) (congrFun (hA9005 30 rfl) _) dX2_copyRow_56 ?_
                refine sX_22 (j := y9027.toNatClampNeg) hk (vp_in_iff.mpr ⟨by omega, by omega⟩) rfl dX2_copyRow_57 ?_
                obtain ⟨y9029, ey9029⟩ : ∃ y : Int32, y = x8999 + Int32.ofInt 1 := ⟨_, rfl⟩
                have hy9029 : y9029.toInt = x8999.toInt + 1 := i32_add ey9029 rfl (by decide) (by omega) (by omega)
                refine g_iinc (v := y9029) (lv' := [(5, .int y9029), (0, .ref (q 38)), (1, .ref (q 50)), (2, .int z2), (3, .ref (q 40)), (4, .int z4)]) hk 0 dX2_copyRow_58 rfl ey9029.symm (by decide) rfl ?_
                refine g_goto (tgt := 36) hk dX2_copyRow_61 (by decide) ?_
                exact g_lv (List.forall_mem_cons.mpr ⟨List.mem_of_getElem? (i := 0) rfl, (List.forall_mem_cons.mpr ⟨List.mem_of_getElem? (i := 1) rfl, (List.forall_mem_cons.mpr ⟨List.mem_of_getElem? (i := 2) rfl, (List.forall_mem_cons.mpr ⟨List.mem_of_getElem? (i := 3) rfl, (List.forall_mem_cons.mpr ⟨List.mem_of_getElem? (i := 4) rfl, (List.forall_mem_cons.mpr ⟨List.mem_of_getElem? (i := 5) rfl, (fun _ h => absurd h List.not_mem_nil)⟩)⟩)⟩)⟩)⟩)⟩) (ih y9029 I9005 (up3 A9005 22 (y9027.toNatClampNeg) (A 30 y9028.toNatClampNeg)) (show Md [] I I9005 from Md.tr hI9005 (show Md [] I9005 I9005 from Md.rf) rfl) (show Md [22] A (up3 A9005 22 (y9027.toNatClampNeg) (A 30 y9028.toNatClampNeg)) from Md.tr hA9005 (show Md [22] A9005 (up3 A9005 22 (y9027.toNatClampNeg) (A 30 y9028.toNatClampNeg)) from (Md.up3 Md.rf rfl)) rfl) ⟨(IvX_f0 (I := I9005) (A := A9005) hV9005), (IvX_f18 (I := I9005) (A := A9005) hV9005), (IvX_f30 (I := I9005) (A := A9005) hV9005), (IvX_f31 (I := I9005) (A := A9005) hV9005), (IvX_a4 (I := I9005) (A := A9005) hV9005), (IvX_a9 (I := I9005) (A := A9005) hV9005), trivial⟩ (by omega) (by omega) (by omega) (by omega))
          have k9031 : (0 : Int32).toInt = 0 := rfl
          obtain ⟨n9030, n9030a, n9030b⟩ : ∃ n : Nat, 17 - 0 < (n : Int) ∧ 0 < n := ⟨((17 - 0 : Int)).toNat + 1, by omega, by omega⟩
          exact lp9023 n9030 0 I A Md.rf Md.rf hIv (by omega) (by omega) n9030a n9030b
        · skip
          exact g_vret hk hR ⟨I, A, (show Md [] I I from Md.rf), (show Md [22] A A from Md.rf), hIv, rfl, rfl⟩ dX2_copyRow_32
def wo_k299_X2_takeRight : List Cond := [Cond.fieldLink RX2 15 "WarpDesk$Fit" "right" "[I", Cond.methodLink RX2 46 yX2_copyRow, Cond.instanceMethod yX2_copyRow, Cond.selects RX2 yX2_copyRow yX2_copyRow, Cond.initialized RX2]
def wz_k299_X2_takeRight : List Cond := .code yX2_takeRight cX2_takeRight 3 none :: (wo_k299_X2_takeRight ++ (wsX20 ++ (wz_k300_X2_copyRow ++ ([] : List Cond))))
theorem zg_k299_X2_takeRight : ∀ w ∈ wz_k299_X2_takeRight, goodWord w = true := zg_cons rfl (zg_app (by decide +kernel) (zg_app zgU_wsX20 (zg_app zg_k300_X2_copyRow zg_nil)))
theorem zi_k299_X2_takeRight : ∀ w ∈ wz_k299_X2_takeRight, w ∈ lw_tbl := zi_cons zw_1282 (zi_app (zi_cons zw_337 (zi_cons zw_1265 (zi_cons zw_1267 (zi_cons zw_40 (zi_cons zw_112 zi_nil))))) (zi_app inX2 (zi_app zi_k300_X2_copyRow zi_nil)))
set_option maxHeartbeats 4000000 in
set_option maxRecDepth 100000 in
theorem k299_X2_takeRight (l : Launch) (D : va_G) (zt : Nat × Nat × Nat × (Nat → Nat) × (Nat → Nat)) (q : Nat → Nat) (d : Nat → ClassId) (I : Nat → Int32) (A : Nat → Nat → Int32) (z2 : Int32) (hIv : IvX I A) : GM l D zt (tyX d) yX2_takeRight wz_k299_X2_takeRight ({ frames := 1, cells := 0, slots := 0, locals := 25 } : Room) [.ref (q 38), .ref (q 50), .int z2] (wX q d I A) (fun v _ w' => ∃ (I' : Nat → Int32) (A' : Nat → Nat → Int32), Md [] I I' ∧ Md [22] A A' ∧ IvX I' A' ∧ v = none ∧ w' = wX q d I' A') 0 0 := by
  refine GM.of (cc := cX2_takeRight) (maxL := 3) (ret := none) (own := RX2) (lv := [(0, .ref (q 38)), (1, .ref (q 50)), (2, .int z2)]) (by decide) rfl rfl (Nat.le_of_ble_eq_true rfl) rfl (fun κ sz hk hR hN => ?_)
  have hin2 : ∀ w ∈ u_ws RX2 TX2 10, w ∈ wz_k299_X2_takeRight := fun w h => (List.mem_cons_of_mem _ (List.mem_append_right _ (List.mem_append_left _ h)))
  refine g_aload_n hk dX2_takeRight_0 rfl ?_
  refine g_aload_n hk dX2_takeRight_1 rfl ?_
  refine g_iload_n hk dX2_takeRight_2 rfl ?_
  refine g_aload_n hk dX2_takeRight_3 rfl ?_
  refine gX_r38_1 hk hin2 (List.mem_cons_of_mem _ (List.mem_append_left _ (List.mem_of_getElem? (i := 0) rfl))) dX2_takeRight_4 ?_
  refine g_iconst (v := 0) hk dX2_takeRight_7 (by decide) ?_
  have k9032 : (0 : Int32).toInt = 0 := rfl
  refine g_callV (n := 4) hk (k300_X2_copyRow l D zt q d I A z2 0 hIv) (SP.same _) (fun _ h => h) (gi_V (List.mem_cons_of_mem _ (List.mem_append_left _ (List.mem_of_getElem? (i := 1) rfl))) (List.mem_cons_of_mem _ (List.mem_append_left _ (List.mem_of_getElem? (i := 2) rfl))) (List.mem_cons_of_mem _ (List.mem_append_left _ (List.mem_of_getElem? (i := 3) rfl))) (List.mem_cons_of_mem _ (List.mem_append_left _ (List.mem_of_getElem? (i := 4) rfl))) (gi_sub (fun w h => (List.mem_cons_of_mem _ (List.mem_append_right _ (List.mem_append_right _ (List.mem_append_left _ h))))) zg_k300_X2_copyRow)) rfl rfl rfl (by decide +kernel) ⟨Nat.le_of_ble_eq_true rfl, Nat.le_of_ble_eq_true rfl⟩ 38 rfl rfl rfl rfl (Nat.le_of_ble_eq_true rfl) ⟨Nat.le_of_ble_eq_true rfl, Nat.le_of_ble_eq_true rfl⟩ dX2_takeRight_8 (fun v ty' w' hp hk' => ?_)
  obtain ⟨I9034, A9034, hI9034, hA9034, hV9034, rfl, rfl⟩ := hp
  show GW κ 3 0 0 (wX q d I9034 A9034) 11 [(0, .ref (q 38)), (1, .ref (q 50)), (2, .int z2)] []
  exact g_vret hk hR ⟨I9034, A9034, (show Md [] I I9034 from (Md.tr Md.rf hI9034 rfl)), (show Md [22] A A9034 from (Md.tr Md.rf hA9034 rfl)), hV9034, rfl, rfl⟩ dX2_takeRight_11
def wo_k296_X9_findNearest : List Cond := [Cond.fieldLink RX9 58 "WarpDesk$Stretches" "nearest" "I", Cond.fieldLink RX9 62 "WarpDesk$Stretches" "nearestDistance" "I", Cond.constant RX9 65 (2147483647), Cond.fieldLink RX9 29 "WarpDesk$Stretches" "fit" "LWarpDesk$Fit;", Cond.fieldLink RX9 9 "WarpDesk$Stretches" "rows" "[I", Cond.methodLink RX9 66 yX2_takeLeft, Cond.instanceMethod yX2_takeLeft, Cond.selects RX2 yX2_takeLeft yX2_takeLeft, Cond.initialized RX2, Cond.fieldLink RX9 15 "WarpDesk$Stretches" "isThere" "[Z", Cond.methodLink RX9 69 Lib.Math.abs.name, Cond.static Lib.Math.abs.name, Cond.initialized "java/lang/Math", Cond.code Lib.Math.abs.name Lib.Math.abs.code 1 (some .int), Cond.methodLink RX9 75 yX2_takeRight, Cond.instanceMethod yX2_takeRight, Cond.selects RX2 yX2_takeRight yX2_takeRight, Cond.methodLink RX9 78 yX2_isLess, Cond.instanceMethod yX2_isLess, Cond.selects RX2 yX2_isLess yX2_isLess, Cond.methodLink RX9 82 yX2_laidDistance, Cond.instanceMethod yX2_laidDistance, Cond.selects RX2 yX2_laidDistance yX2_laidDistance]
def wz_k296_X9_findNearest : List Cond := .code yX9_findNearest cX9_findNearest 6 none :: (wo_k296_X9_findNearest ++ (wsX90 ++ (wz_k297_X2_takeLeft ++ (wz_k299_X2_takeRight ++ (wz_k264_X2_isLess ++ (wz_k237_X2_laidDistance ++ ([] : List Cond)))))))
theorem zg_k296_X9_findNearest : ∀ w ∈ wz_k296_X9_findNearest, goodWord w = true := zg_cons rfl (zg_app (by decide +kernel) (zg_app zgU_wsX90 (zg_app zg_k297_X2_takeLeft (zg_app zg_k299_X2_takeRight (zg_app zg_k264_X2_isLess (zg_app zg_k237_X2_laidDistance zg_nil))))))
theorem zi_k296_X9_findNearest : ∀ w ∈ wz_k296_X9_findNearest, w ∈ lw_tbl := zi_cons zw_1272 (zi_app (zi_cons zw_450 (zi_cons zw_452 (zi_cons zw_1273 (zi_cons zw_447 (zi_cons zw_448 (zi_cons zw_1274 (zi_cons zw_1275 (zi_cons zw_1276 (zi_cons zw_112 (zi_cons zw_449 (zi_cons zw_1278 (zi_cons zw_1076 (zi_cons zw_120 (zi_cons zw_1077 (zi_cons zw_1279 (zi_cons zw_1280 (zi_cons zw_1281 (zi_cons zw_1283 (zi_cons zw_1125 (zi_cons zw_1126 (zi_cons zw_1284 (zi_cons zw_1014 (zi_cons zw_1015 zi_nil))))))))))))))))))))))) (zi_app inX9 (zi_app zi_k297_X2_takeLeft (zi_app zi_k299_X2_takeRight (zi_app zi_k264_X2_isLess (zi_app zi_k237_X2_laidDistance zi_nil))))))
set_option maxHeartbeats 4000000 in
set_option maxRecDepth 100000 in
theorem k296_X9_findNearest (l : Launch) (D : va_G) (zt : Nat × Nat × Nat × (Nat → Nat) × (Nat → Nat)) (q : Nat → Nat) (d : Nat → ClassId) (I : Nat → Int32) (A : Nat → Nat → Int32) (z1 : Int32) (z2 : Int32) (z3 : Int32) (hIv : IvX I A) : GM l D zt (tyX d) yX9_findNearest wz_k296_X9_findNearest ({ frames := 4, cells := 0, slots := 0, locals := 93 } : Room) [.ref (q 49), .int z1, .int z2, .int z3] (wX q d I A) (fun v _ w' => ∃ (I' : Nat → Int32) (A' : Nat → Nat → Int32), Md [33, 34, 38, 39] I I' ∧ Md [21, 22, 23] A A' ∧ IvX I' A' ∧ v = none ∧ w' = wX q d I' A') 0 0 := by
  refine GM.of (cc := cX9_findNearest) (maxL := 6) (ret := none) (own := RX9) (lv := [(0, .ref (q 49)), (1, .int z1), (2, .int z2), (3, .int z3)]) (by decide) rfl rfl (Nat.le_of_ble_eq_true rfl) rfl (fun κ sz hk hR hN => ?_)
  have hin9 : ∀ w ∈ u_ws RX9 TX9 11, w ∈ wz_k296_X9_findNearest := fun w h => (List.mem_cons_of_mem _ (List.mem_append_right _ (List.mem_append_left _ h)))
  refine g_aload_n hk dX9_findNearest_0 rfl ?_
  refine g_bipush (v := (-2)) hk dX9_findNearest_1 (by decide) ?_
  refine pX_i38 hk hin9 (List.mem_cons_of_mem _ (List.mem_append_left _ (List.mem_of_getElem? (i := 0) rfl))) dX9_findNearest_3 ?_
  refine g_aload_n hk dX9_findNearest_6 rfl ?_
  refine g_bipush (v := (-2)) hk dX9_findNearest_7 (by decide) ?_
  refine pX_i39 hk hin9 (List.mem_cons_of_mem _ (List.mem_append_left _ (List.mem_of_getElem? (i := 1) rfl))) dX9_findNearest_9 ?_
  refine g_ldc (v := 2147483647) hk (List.mem_cons_of_mem _ (List.mem_append_left _ (List.mem_of_getElem? (i := 2) rfl))) dX9_findNearest_12 ?_
  refine g_istore (lv' := [(4, .int 2147483647), (0, .ref (q 49)), (1, .int z1), (2, .int z2), (3, .int z3)]) hk dX9_findNearest_14 (by decide) rfl ?_
  refine g_aload_n hk dX9_findNearest_16 rfl ?_
  refine gX_r49_1 hk hin9 (List.mem_cons_of_mem _ (List.mem_append_left _ (List.mem_of_getElem? (i := 3) rfl))) dX9_findNearest_17 ?_
  refine g_aload_n hk dX9_findNearest_20 rfl ?_
  refine gX_r49_2 hk hin9 (List.mem_cons_of_mem _ (List.mem_append_left _ (List.mem_of_getElem? (i := 4) rfl))) dX9_findNearest_21 ?_
  refine g_iload_n hk dX9_findNearest_24 rfl ?_
  refine g_bipush (v := 16) hk dX9_findNearest_25 (by decide) ?_
  have b8924l := Int32.le_toInt z1
  have b8924h := Int32.toInt_lt z1
  refine g_imul hk dX9_findNearest_27 ?_
  refine g_topi (fun y8925 ey8925 => ?_)
  refine g_callV (n := 2) hk (k297_X2_takeLeft l D zt q d (upd (upd I 38 (-2)) 39 (-2)) A y8925 ⟨(IvX_f0 (I := I) (A := A) hIv), (IvX_f18 (I := I) (A := A) hIv), (IvX_f30 (I := I) (A := A) hIv), (IvX_f31 (I := I) (A := A) hIv), (IvX_a4 (I := I) (A := A) hIv), (IvX_a9 (I := I) (A := A) hIv), trivial⟩) (SP.same _) (fun _ h => h) (gi_V (List.mem_cons_of_mem _ (List.mem_append_left _ (List.mem_of_getElem? (i := 5) rfl))) (List.mem_cons_of_mem _ (List.mem_append_left _ (List.mem_of_getElem? (i := 6) rfl))) (List.mem_cons_of_mem _ (List.mem_append_left _ (List.mem_of_getElem? (i := 7) rfl))) (List.mem_cons_of_mem _ (List.mem_append_left _ (List.mem_of_getElem? (i := 8) rfl))) (gi_sub (fun w h => (List.mem_cons_of_mem _ (List.mem_append_right _ (List.mem_append_right _ (List.mem_append_left _ h))))) zg_k297_X2_takeLeft)) rfl rfl rfl (by decide +kernel) ⟨Nat.le_of_ble_eq_true rfl, Nat.le_of_ble_eq_true rfl⟩ 38 rfl rfl rfl rfl (Nat.le_of_ble_eq_true rfl) ⟨Nat.le_of_ble_eq_true rfl, Nat.le_of_ble_eq_true rfl⟩ dX9_findNearest_28 (fun v ty' w' hp hk' => ?_)
  obtain ⟨I8972, A8972, hI8972, hA8972, hV8972, rfl, rfl⟩ := hp
  show GW κ 6 0 0 (wX q d I8972 A8972) 31 [(4, .int 2147483647), (0, .ref (q 49)), (1, .int z1), (2, .int z2), (3, .int z3)] []
  refine g_iconst (v := 0) hk dX9_findNearest_31 (by decide) ?_
  refine g_istore (lv' := [(5, .int 0), (4, .int 2147483647), (0, .ref (q 49)), (1, .int z1), (2, .int z2), (3, .int z3)]) hk dX9_findNearest_32 (by decide) rfl ?_
  have lp9122 : ∀ (n9123 : Nat) (x8973 : Int32) (x8974 : Int32) (I8979 : Nat → Int32) (A8979 : Nat → Nat → Int32), (Md [33, 34, 38, 39] I8972 I8979) → (Md [22, 23] A8972 A8979) → (IvX I8979 A8979) → (0 ≤ x8973.toInt) → (x8973.toInt ≤ 160) → (161 - x8973.toInt < (n9123 : Int)) → (0 < n9123) → GW κ 6 0 0 (wX q d I8979 A8979) 34 [(5, .int x8973), (4, .int x8974), (0, .ref (q 49)), (1, .int z1), (2, .int z2), (3, .int z3)] [] := by
    intro n9123
    induction n9123 with
    | zero =>
      intro x8973 x8974 I8979 A8979 hI8979 hA8979 hV8979 h9120 h9121 m9124 m9124z
      exact absurd m9124z (Nat.lt_irrefl 0)
    | succ n9123 ih =>
      intro x8973 x8974 I8979 A8979 hI8979 hA8979 hV8979 h9120 h9121 m9124 m9124z
      refine g_iload hk dX9_findNearest_34 rfl ?_
      refine g_sipush (v := 160) hk dX9_findNearest_36 (by decide) ?_
      refine g_icmp_ge (tgt := 127) (a := x8973.toInt) (b := 160) hk dX9_findNearest_39 (by decide) rfl rfl (fun c9125 => ?_) (fun c9125 => ?_)
      · skip
        exact g_vret hk hR ⟨I8979, A8979, (show Md [33, 34, 38, 39] I I8979 from (Md.tr (Md.tr (Md.up (Md.up Md.rf rfl) rfl) hI8972 rfl) hI8979 rfl)), (show Md [21, 22, 23] A A8979 from (Md.tr (Md.tr Md.rf hA8972 rfl) hA8979 rfl)), hV8979, rfl, rfl⟩ dX9_findNearest_127
      · skip
        refine g_iload hk dX9_findNearest_42 rfl ?_
        refine g_iload_n hk dX9_findNearest_44 rfl ?_
        have b9126l := Int32.le_toInt x8974
        have b9126h := Int32.toInt_lt x8974
        have b9127l := Int32.le_toInt z3
        have b9127h := Int32.toInt_lt z3
        refine g_icmp_le (tgt := 127) (a := x8974.toInt) (b := z3.toInt) hk dX9_findNearest_45 (by decide) rfl rfl (fun c9128 => ?_) (fun c9128 => ?_)
        · skip
          exact g_vret hk hR ⟨I8979, A8979, (show Md [33, 34, 38, 39] I I8979 from (Md.tr (Md.tr (Md.up (Md.up Md.rf rfl) rfl) hI8972 rfl) hI8979 rfl)), (show Md [21, 22, 23] A A8979 from (Md.tr (Md.tr Md.rf hA8972 rfl) hA8979 rfl)), hV8979, rfl, rfl⟩ dX9_findNearest_127
        · skip
          refine g_aload_n hk dX9_findNearest_48 rfl ?_
          refine gX_r49_3 hk hin9 (List.mem_cons_of_mem _ (List.mem_append_left _ (List.mem_of_getElem? (i := 9) rfl))) dX9_findNearest_49 ?_
          refine g_iload hk dX9_findNearest_52 rfl ?_
          refine lX_31 (v := (A 31 x8973.toNatClampNeg)) hk (vp_in_iff.mpr ⟨by omega, by omega⟩) ((congrFun (hA8979 31 rfl) _).trans (congrFun (hA8972 31 rfl) _)) dX9_findNearest_54 ?_
          have b9129l := Int32.le_toInt (A 31 x8973.toNatClampNeg)
          have b9129h := Int32.toInt_lt (A 31 x8973.toNatClampNeg)
          refine g_if_eq (tgt := 121) (a := (A 31 x8973.toNatClampNeg).toInt) hk dX9_findNearest_55 (by decide) rfl (fun c9130 => ?_) (fun c9130 => ?_)
          · skip
            obtain ⟨y9131, ey9131⟩ : ∃ y : Int32, y = x8973 + Int32.ofInt 1 := ⟨_, rfl⟩
            have hy9131 : y9131.toInt = x8973.toInt + 1 := i32_add ey9131 rfl (by decide) (by omega) (by omega)
            refine g_iinc (v := y9131) (lv' := [(5, .int y9131), (4, .int x8974), (0, .ref (q 49)), (1, .int z1), (2, .int z2), (3, .int z3)]) hk 0 dX9_findNearest_121 rfl ey9131.symm (by decide) rfl ?_
            refine g_goto (tgt := 34) hk dX9_findNearest_124 (by decide) ?_
            exact g_lv (List.forall_mem_cons.mpr ⟨List.mem_of_getElem? (i := 0) rfl, (List.forall_mem_cons.mpr ⟨List.mem_of_getElem? (i := 1) rfl, (List.forall_mem_cons.mpr ⟨List.mem_of_getElem? (i := 2) rfl, (List.forall_mem_cons.mpr ⟨List.mem_of_getElem? (i := 3) rfl, (List.forall_mem_cons.mpr ⟨List.mem_of_getElem? (i := 4) rfl, (List.forall_mem_cons.mpr ⟨List.mem_of_getElem? (i := 5) rfl, (fun _ h => absurd h List.not_mem_nil)⟩)⟩)⟩)⟩)⟩)⟩) (ih y9131 x8974 I8979 A8979 (show Md [33, 34, 38, 39] I8972 I8979 from Md.tr hI8979 (show Md [33, 34, 38, 39] I8979 I8979 from Md.rf) rfl) (show Md [22, 23] A8972 A8979 from Md.tr hA8979 (show Md [22, 23] A8979 A8979 from Md.rf) rfl) hV8979 (by omega) (by omega) (by omega) (by omega))
          · skip
            refine g_iload hk dX9_findNearest_58 rfl ?_
            refine g_iload_n hk dX9_findNearest_60 rfl ?_
            refine g_isub hk dX9_findNearest_61 ?_
            refine g_topi (fun y9132 ey9132 => ?_)
            have hy9132 := i32_sub0 ey9132
            have b9133l := Int32.le_toInt y9132
            have b9133h := Int32.toInt_lt y9132
            refine g_mabs hk (List.mem_cons_of_mem _ (List.mem_append_left _ (List.mem_of_getElem? (i := 10) rfl))) (List.mem_cons_of_mem _ (List.mem_append_left _ (List.mem_of_getElem? (i := 11) rfl))) (List.mem_cons_of_mem _ (List.mem_append_left _ (List.mem_of_getElem? (i := 12) rfl))) (List.mem_cons_of_mem _ (List.mem_append_left _ (List.mem_of_getElem? (i := 13) rfl))) (Nat.le_of_ble_eq_true rfl) (Nat.le_of_ble_eq_true rfl) (Nat.le_of_ble_eq_true rfl) (Nat.le_of_ble_eq_true rfl) dX9_findNearest_62 ?_
            refine g_topi (fun y9134 ey9134 => ?_)
            refine g_iload_n hk dX9_findNearest_65 rfl ?_
            have b9135l := Int32.le_toInt y9134
            have b9135h := Int32.toInt_lt y9134
            have b9136l := Int32.le_toInt z2
            have b9136h := Int32.toInt_lt z2
            refine g_icmp_ge (tgt := 72) (a := y9134.toInt) (b := z2.toInt) hk dX9_findNearest_66 (by decide) rfl rfl (fun c9137 => ?_) (fun c9137 => ?_)
            · skip
              refine g_aload_n hk dX9_findNearest_72 rfl ?_
              refine gX_r49_1 hk hin9 (List.mem_cons_of_mem _ (List.mem_append_left _ (List.mem_of_getElem? (i := 3) rfl))) dX9_findNearest_73 ?_
              refine g_aload_n hk dX9_findNearest_76 rfl ?_
              refine gX_r49_2 hk hin9 (List.mem_cons_of_mem _ (List.mem_append_left _ (List.mem_of_getElem? (i := 4) rfl))) dX9_findNearest_77 ?_
              refine g_iload hk dX9_findNearest_80 rfl ?_
              refine g_bipush (v := 16) hk dX9_findNearest_82 (by decide) ?_
              refine g_imul hk dX9_findNearest_84 ?_
              refine g_topi (fun y9138 ey9138 => ?_)
              have hy9138 : y9138.toInt = x8973.toInt * 16 := i32_mul ey9138 rfl rfl (by omega) (by omega)
              refine g_callV (n := 2) hk (k299_X2_takeRight l D zt q d I8979 A8979 y9138 hV8979) (SP.same _) (fun _ h => h) (gi_V (List.mem_cons_of_mem _ (List.mem_append_left _ (List.mem_of_getElem? (i := 14) rfl))) (List.mem_cons_of_mem _ (List.mem_append_left _ (List.mem_of_getElem? (i := 15) rfl))) (List.mem_cons_of_mem _ (List.mem_append_left _ (List.mem_of_getElem? (i := 16) rfl))) (List.mem_cons_of_mem _ (List.mem_append_left _ (List.mem_of_getElem? (i := 8) rfl))) (gi_sub (fun w h => (List.mem_cons_of_mem _ (List.mem_append_right _ (List.mem_append_right _ (List.mem_append_right _ (List.mem_append_left _ h)))))) zg_k299_X2_takeRight)) rfl rfl rfl (by decide +kernel) ⟨Nat.le_of_ble_eq_true rfl, Nat.le_of_ble_eq_true rfl⟩ 38 rfl rfl rfl rfl (Nat.le_of_ble_eq_true rfl) ⟨Nat.le_of_ble_eq_true rfl, Nat.le_of_ble_eq_true rfl⟩ dX9_findNearest_85 (fun v ty' w' hp hk' => ?_)
              obtain ⟨I9140, A9140, hI9140, hA9140, hV9140, rfl, rfl⟩ := hp
              show GW κ 6 0 0 (wX q d I9140 A9140) 88 [(5, .int x8973), (4, .int x8974), (0, .ref (q 49)), (1, .int z1), (2, .int z2), (3, .int z3)] []
              refine g_aload_n hk dX9_findNearest_88 rfl ?_
              refine gX_r49_1 hk hin9 (List.mem_cons_of_mem _ (List.mem_append_left _ (List.mem_of_getElem? (i := 3) rfl))) dX9_findNearest_89 ?_
              refine g_iload hk dX9_findNearest_92 rfl ?_
              refine g_callV (n := 1) hk (k264_X2_isLess l D zt q d I9140 A9140 x8974 hV9140) (SP.same _) (fun _ h => h) (gi_V (List.mem_cons_of_mem _ (List.mem_append_left _ (List.mem_of_getElem? (i := 17) rfl))) (List.mem_cons_of_mem _ (List.mem_append_left _ (List.mem_of_getElem? (i := 18) rfl))) (List.mem_cons_of_mem _ (List.mem_append_left _ (List.mem_of_getElem? (i := 19) rfl))) (List.mem_cons_of_mem _ (List.mem_append_left _ (List.mem_of_getElem? (i := 8) rfl))) (gi_sub (fun w h => (List.mem_cons_of_mem _ (List.mem_append_right _ (List.mem_append_right _ (List.mem_append_right _ (List.mem_append_right _ (List.mem_append_left _ h))))))) zg_k264_X2_isLess)) rfl rfl rfl (by decide +kernel) ⟨Nat.le_of_ble_eq_true rfl, Nat.le_of_ble_eq_true rfl⟩ 38 rfl rfl rfl rfl (Nat.le_of_ble_eq_true rfl) ⟨Nat.le_of_ble_eq_true rfl, Nat.le_of_ble_eq_true rfl⟩ dX9_findNearest_94 (fun v ty' w' hp hk' => ?_)
              obtain ⟨I9144, A9144, hI9144, hA9144, hV9144, y9141, c9142, c9143, rfl, rfl⟩ := hp
              show GW κ 6 0 0 (wX q d I9144 A9144) 97 [(5, .int x8973), (4, .int x8974), (0, .ref (q 49)), (1, .int z1), (2, .int z2), (3, .int z3)] [.int y9141]
              refine g_if_eq (tgt := 121) (a := y9141.toInt) hk dX9_findNearest_97 (by decide) rfl (fun c9145 => ?_) (fun c9145 => ?_)
              · skip
                obtain ⟨y9146, ey9146⟩ : ∃ y : Int32, y = x8973 + Int32.ofInt 1 := ⟨_, rfl⟩
                have hy9146 : y9146.toInt = x8973.toInt + 1 := i32_add ey9146 rfl (by decide) (by omega) (by omega)
                refine g_iinc (v := y9146) (lv' := [(5, .int y9146), (4, .int x8974), (0, .ref (q 49)), (1, .int z1), (2, .int z2), (3, .int z3)]) hk 0 dX9_findNearest_121 rfl ey9146.symm (by decide) rfl ?_
                refine g_goto (tgt := 34) hk dX9_findNearest_124 (by decide) ?_
                exact g_lv (List.forall_mem_cons.mpr ⟨List.mem_of_getElem? (i := 0) rfl, (List.forall_mem_cons.mpr ⟨List.mem_of_getElem? (i := 1) rfl, (List.forall_mem_cons.mpr ⟨List.mem_of_getElem? (i := 2) rfl, (List.forall_mem_cons.mpr ⟨List.mem_of_getElem? (i := 3) rfl, (List.forall_mem_cons.mpr ⟨List.mem_of_getElem? (i := 4) rfl, (List.forall_mem_cons.mpr ⟨List.mem_of_getElem? (i := 5) rfl, (fun _ h => absurd h List.not_mem_nil)⟩)⟩)⟩)⟩)⟩)⟩) (ih y9146 x8974 I9144 A9144 (show Md [33, 34, 38, 39] I8972 I9144 from Md.tr hI8979 (show Md [33, 34, 38, 39] I8979 I9144 from (Md.tr (Md.tr Md.rf hI9140 rfl) hI9144 rfl)) rfl) (show Md [22, 23] A8972 A9144 from Md.tr hA8979 (show Md [22, 23] A8979 A9144 from (Md.tr (Md.tr Md.rf hA9140 rfl) hA9144 rfl)) rfl) hV9144 (by omega) (by omega) (by omega) (by omega))
              · skip
                refine g_aload_n hk dX9_findNearest_100 rfl ?_
                refine gX_r49_1 hk hin9 (List.mem_cons_of_mem _ (List.mem_append_left _ (List.mem_of_getElem? (i := 3) rfl))) dX9_findNearest_101 ?_
                refine g_callV (n := 0) hk (k237_X2_laidDistance l D zt q d I9144 A9144  hV9144) (SP.same _) (fun _ h => h) (gi_V (List.mem_cons_of_mem _ (List.mem_append_left _ (List.mem_of_getElem? (i := 20) rfl))) (List.mem_cons_of_mem _ (List.mem_append_left _ (List.mem_of_getElem? (i := 21) rfl))) (List.mem_cons_of_mem _ (List.mem_append_left _ (List.mem_of_getElem? (i := 22) rfl))) (List.mem_cons_of_mem _ (List.mem_append_left _ (List.mem_of_getElem? (i := 8) rfl))) (gi_sub (fun w h => (List.mem_cons_of_mem _ (List.mem_append_right _ (List.mem_append_right _ (List.mem_append_right _ (List.mem_append_right _ (List.mem_append_right _ (List.mem_append_left _ h)))))))) zg_k237_X2_laidDistance)) rfl rfl rfl (by decide +kernel) ⟨Nat.le_of_ble_eq_true rfl, Nat.le_of_ble_eq_true rfl⟩ 38 rfl rfl rfl rfl (Nat.le_of_ble_eq_true rfl) ⟨Nat.le_of_ble_eq_true rfl, Nat.le_of_ble_eq_true rfl⟩ dX9_findNearest_104 (fun v ty' w' hp hk' => ?_)
                obtain ⟨y9147, rfl, rfl⟩ := hp
                show GW κ 6 0 0 (wX q d I9144 A9144) 107 [(5, .int x8973), (4, .int x8974), (0, .ref (q 49)), (1, .int z1), (2, .int z2), (3, .int z3)] [.int y9147]
                refine g_istore (lv' := [(4, .int y9147), (5, .int x8973), (0, .ref (q 49)), (1, .int z1), (2, .int z2), (3, .int z3)]) hk dX9_findNearest_107 (by decide) rfl ?_
                refine g_aload_n hk dX9_findNearest_109 rfl ?_
                refine g_iload hk dX9_findNearest_110 rfl ?_
                refine pX_i38 hk hin9 (List.mem_cons_of_mem _ (List.mem_append_left _ (List.mem_of_getElem? (i := 0) rfl))) dX9_findNearest_112 ?_
                refine g_aload_n hk dX9_findNearest_115 rfl ?_
                refine g_iload hk dX9_findNearest_116 rfl ?_
                refine pX_i39 hk hin9 (List.mem_cons_of_mem _ (List.mem_append_left _ (List.mem_of_getElem? (i := 1) rfl))) dX9_findNearest_118 ?_
                obtain ⟨y9148, ey9148⟩ : ∃ y : Int32, y = x8973 + Int32.ofInt 1 := ⟨_, rfl⟩
                have hy9148 : y9148.toInt = x8973.toInt + 1 := i32_add ey9148 rfl (by decide) (by omega) (by omega)
                refine g_iinc (v := y9148) (lv' := [(5, .int y9148), (4, .int y9147), (0, .ref (q 49)), (1, .int z1), (2, .int z2), (3, .int z3)]) hk 1 dX9_findNearest_121 rfl ey9148.symm (by decide) rfl ?_
                refine g_goto (tgt := 34) hk dX9_findNearest_124 (by decide) ?_
                exact g_lv (List.forall_mem_cons.mpr ⟨List.mem_of_getElem? (i := 0) rfl, (List.forall_mem_cons.mpr ⟨List.mem_of_getElem? (i := 1) rfl, (List.forall_mem_cons.mpr ⟨List.mem_of_getElem? (i := 2) rfl, (List.forall_mem_cons.mpr ⟨List.mem_of_getElem? (i := 3) rfl, (List.forall_mem_cons.mpr ⟨List.mem_of_getElem? (i := 4) rfl, (List.forall_mem_cons.mpr ⟨List.mem_of_getElem? (i := 5) rfl, (fun _ h => absurd h List.not_mem_nil)⟩)⟩)⟩)⟩)⟩)⟩) (ih y9148 y9147 (upd (upd I9144 38 x8973) 39 y9147) A9144 (show Md [33, 34, 38, 39] I8972 (upd (upd I9144 38 x8973) 39 y9147) from Md.tr hI8979 (show Md [33, 34, 38, 39] I8979 (upd (upd I9144 38 x8973) 39 y9147) from (Md.up (Md.up (Md.tr (Md.tr Md.rf hI9140 rfl) hI9144 rfl) rfl) rfl)) rfl) (show Md [22, 23] A8972 A9144 from Md.tr hA8979 (show Md [22, 23] A8979 A9144 from (Md.tr (Md.tr Md.rf hA9140 rfl) hA9144 rfl)) rfl) ⟨(IvX_f0 (I := I9144) (A := A9144) hV9144), (IvX_f18 (I := I9144) (A := A9144) hV9144), (IvX_f30 (I := I9144) (A := A9144) hV9144), (IvX_f31 (I := I9144) (A := A9144) hV9144), (IvX_a4 (I := I9144) (A := A9144) hV9144), (IvX_a9 (I := I9144) (A := A9144) hV9144), trivial⟩ (by omega) (by omega) (by omega) (by omega))
            · skip
              refine g_goto (tgt := 121) hk dX9_findNearest_69 (by decide) ?_
              obtain ⟨y9149, ey9149⟩ : ∃ y : Int32, y = x8973 + Int32.ofInt 1 := ⟨_, rfl⟩
              have hy9149 : y9149.toInt = x8973.toInt + 1 := i32_add ey9149 rfl (by decide) (by omega) (by omega)
              refine g_iinc (v := y9149) (lv' := [(5, .int y9149), (4, .int x8974), (0, .ref (q 49)), (1, .int z1), (2, .int z2), (3, .int z3)]) hk 0 dX9_findNearest_121 rfl ey9149.symm (by decide) rfl ?_
              refine g_goto (tgt := 34) hk dX9_findNearest_124 (by decide) ?_
              exact g_lv (List.forall_mem_cons.mpr ⟨List.mem_of_getElem? (i := 0) rfl, (List.forall_mem_cons.mpr ⟨List.mem_of_getElem? (i := 1) rfl, (List.forall_mem_cons.mpr ⟨List.mem_of_getElem? (i := 2) rfl, (List.forall_mem_cons.mpr ⟨List.mem_of_getElem? (i := 3) rfl, (List.forall_mem_cons.mpr ⟨List.mem_of_getElem? (i := 4) rfl, (List.forall_mem_cons.mpr ⟨List.mem_of_getElem? (i := 5) rfl, (fun _ h => absurd h List.not_mem_nil)⟩)⟩)⟩)⟩)⟩)⟩) (ih y9149 x8974 I8979 A8979 (show Md [33, 34, 38, 39] I8972 I8979 from Md.tr hI8979 (show Md [33, 34, 38, 39] I8979 I8979 from Md.rf) rfl) (show Md [22, 23] A8972 A8979 from Md.tr hA8979 (show Md [22, 23] A8979 A8979 from Md.rf) rfl) hV8979 (by omega) (by omega) (by omega) (by omega))
  have k9151 : (0 : Int32).toInt = 0 := rfl
  have k9152 : (2147483647 : Int32).toInt = 2147483647 := rfl
  obtain ⟨n9150, n9150a, n9150b⟩ : ∃ n : Nat, 161 - 0 < (n : Int) ∧ 0 < n := ⟨((161 - 0 : Int)).toNat + 1, by omega, by omega⟩
  exact lp9122 n9150 0 2147483647 I8972 A8972 Md.rf Md.rf hV8972 (by omega) (by omega) n9150a n9150b
def wo_k292_X9_findNear : List Cond := [Cond.methodLink RX9 50 yX9_bringAll, Cond.instanceMethod yX9_bringAll, Cond.selects RX9 yX9_bringAll yX9_bringAll, Cond.initialized RX9, Cond.methodLink RX9 54 yX9_findNearest, Cond.instanceMethod yX9_findNearest, Cond.selects RX9 yX9_findNearest yX9_findNearest]
def wz_k292_X9_findNear : List Cond := .code yX9_findNear cX9_findNear 3 none :: (wo_k292_X9_findNear ++ (wz_k293_X9_bringAll ++ (wz_k296_X9_findNearest ++ ([] : List Cond))))
theorem zg_k292_X9_findNear : ∀ w ∈ wz_k292_X9_findNear, goodWord w = true := zg_cons rfl (zg_app (by decide +kernel) (zg_app zg_k293_X9_bringAll (zg_app zg_k296_X9_findNearest zg_nil)))
theorem zi_k292_X9_findNear : ∀ w ∈ wz_k292_X9_findNear, w ∈ lw_tbl := zi_cons zw_1254 (zi_app (zi_cons zw_1255 (zi_cons zw_1257 (zi_cons zw_39 (zi_cons zw_114 (zi_cons zw_1269 (zi_cons zw_1271 (zi_cons zw_41 zi_nil))))))) (zi_app zi_k293_X9_bringAll (zi_app zi_k296_X9_findNearest zi_nil)))
set_option maxHeartbeats 4000000 in
set_option maxRecDepth 100000 in
theorem k292_X9_findNear (l : Launch) (D : va_G) (zt : Nat × Nat × Nat × (Nat → Nat) × (Nat → Nat)) (q : Nat → Nat) (d : Nat → ClassId) (I : Nat → Int32) (A : Nat → Nat → Int32) (z1 : Int32) (z2 : Int32) (hIv : IvX I A) : GM l D zt (tyX d) yX9_findNear wz_k292_X9_findNear ({ frames := 5, cells := 0, slots := 0, locals := 118 } : Room) [.ref (q 49), .int z1, .int z2] (wX q d I A) (fun v _ w' => ∃ (I' : Nat → Int32) (A' : Nat → Nat → Int32), Md [28, 30, 31, 32, 33, 34, 38, 39] I I' ∧ Md [21, 22, 23, 30, 31] A A' ∧ IvX I' A' ∧ v = none ∧ w' = wX q d I' A') 0 0 := by
  refine GM.of (cc := cX9_findNear) (maxL := 3) (ret := none) (own := RX9) (lv := [(0, .ref (q 49)), (1, .int z1), (2, .int z2)]) (by decide) rfl rfl (Nat.le_of_ble_eq_true rfl) rfl (fun κ sz hk hR hN => ?_)
  refine g_aload_n hk dX9_findNear_0 rfl ?_
  refine g_iload_n hk dX9_findNear_1 rfl ?_
  refine g_callV (n := 1) hk (k293_X9_bringAll l D zt q d I A z2 hIv) (SP.same _) (fun _ h => h) (gi_V (List.mem_cons_of_mem _ (List.mem_append_left _ (List.mem_of_getElem? (i := 0) rfl))) (List.mem_cons_of_mem _ (List.mem_append_left _ (List.mem_of_getElem? (i := 1) rfl))) (List.mem_cons_of_mem _ (List.mem_append_left _ (List.mem_of_getElem? (i := 2) rfl))) (List.mem_cons_of_mem _ (List.mem_append_left _ (List.mem_of_getElem? (i := 3) rfl))) (gi_sub (fun w h => (List.mem_cons_of_mem _ (List.mem_append_right _ (List.mem_append_left _ h)))) zg_k293_X9_bringAll)) rfl rfl rfl (by decide +kernel) ⟨Nat.le_of_ble_eq_true rfl, Nat.le_of_ble_eq_true rfl⟩ 49 rfl rfl rfl rfl (Nat.le_of_ble_eq_true rfl) ⟨Nat.le_of_ble_eq_true rfl, Nat.le_of_ble_eq_true rfl⟩ dX9_findNear_2 (fun v ty' w' hp hk' => ?_)
  obtain ⟨I8923, A8923, hI8923, hA8923, hV8923, rfl, rfl⟩ := hp
  show GW κ 3 0 0 (wX q d I8923 A8923) 5 [(0, .ref (q 49)), (1, .int z1), (2, .int z2)] []
  refine g_aload_n hk dX9_findNear_5 rfl ?_
  refine g_iload_n hk dX9_findNear_6 rfl ?_
  refine g_iload_n hk dX9_findNear_7 rfl ?_
  refine g_iconst (v := (-1)) hk dX9_findNear_8 (by decide) ?_
  have k9153 : ((-1) : Int32).toInt = (-1) := rfl
  refine g_callV (n := 3) hk (k296_X9_findNearest l D zt q d I8923 A8923 z1 z2 (-1) hV8923) (SP.same _) (fun _ h => h) (gi_V (List.mem_cons_of_mem _ (List.mem_append_left _ (List.mem_of_getElem? (i := 4) rfl))) (List.mem_cons_of_mem _ (List.mem_append_left _ (List.mem_of_getElem? (i := 5) rfl))) (List.mem_cons_of_mem _ (List.mem_append_left _ (List.mem_of_getElem? (i := 6) rfl))) (List.mem_cons_of_mem _ (List.mem_append_left _ (List.mem_of_getElem? (i := 3) rfl))) (gi_sub (fun w h => (List.mem_cons_of_mem _ (List.mem_append_right _ (List.mem_append_right _ (List.mem_append_left _ h))))) zg_k296_X9_findNearest)) rfl rfl rfl (by decide +kernel) ⟨Nat.le_of_ble_eq_true rfl, Nat.le_of_ble_eq_true rfl⟩ 49 rfl rfl rfl rfl (Nat.le_of_ble_eq_true rfl) ⟨Nat.le_of_ble_eq_true rfl, Nat.le_of_ble_eq_true rfl⟩ dX9_findNear_9 (fun v ty' w' hp hk' => ?_)
  obtain ⟨I9155, A9155, hI9155, hA9155, hV9155, rfl, rfl⟩ := hp
  show GW κ 3 0 0 (wX q d I9155 A9155) 12 [(0, .ref (q 49)), (1, .int z1), (2, .int z2)] []
  exact g_vret hk hR ⟨I9155, A9155, (show Md [28, 30, 31, 32, 33, 34, 38, 39] I I9155 from (Md.tr (Md.tr Md.rf hI8923 rfl) hI9155 rfl)), (show Md [21, 22, 23, 30, 31] A A9155 from (Md.tr (Md.tr Md.rf hA8923 rfl) hA9155 rfl)), hV9155, rfl, rfl⟩ dX9_findNear_12
def wo_k291_X11_near : List Cond := [Cond.methodLink RX11 196 yX11_isStretch, Cond.static yX11_isStretch, Cond.initialized RX11, Cond.fieldLink RX11 28 "WarpDesk" "series" "LWarpDesk$Series;", Cond.methodLink RX11 183 yX6_hasWindow, Cond.instanceMethod yX6_hasWindow, Cond.selects RX6 yX6_hasWindow yX6_hasWindow, Cond.initialized RX6, Cond.fieldLink RX11 81 "WarpDesk" "stretches" "LWarpDesk$Stretches;", Cond.methodLink RX11 323 yX9_findNear, Cond.instanceMethod yX9_findNear, Cond.selects RX9 yX9_findNear yX9_findNear, Cond.initialized RX9, Cond.fieldLink RX11 329 "WarpDesk$Stretches" "nearestDistance" "I", Cond.fieldLink RX11 326 "WarpDesk$Stretches" "nearest" "I"]
def wz_k291_X11_near : List Cond := .code yX11_near cX11_near 4 (some .int) :: (wo_k291_X11_near ++ (wsX90 ++ (wsX110 ++ (wz_k212_X11_isStretch ++ (wz_k207_X6_hasWindow ++ (wz_k292_X9_findNear ++ ([] : List Cond)))))))
theorem zg_k291_X11_near : ∀ w ∈ wz_k291_X11_near, goodWord w = true := zg_cons rfl (zg_app (by decide +kernel) (zg_app zgU_wsX90 (zg_app zgU_wsX110 (zg_app zg_k212_X11_isStretch (zg_app zg_k207_X6_hasWindow (zg_app zg_k292_X9_findNear zg_nil))))))
theorem zi_k291_X11_near : ∀ w ∈ wz_k291_X11_near, w ∈ lw_tbl := zi_cons zw_1250 (zi_app (zi_cons zw_926 (zi_cons zw_927 (zi_cons zw_103 (zi_cons zw_489 (zi_cons zw_901 (zi_cons zw_902 (zi_cons zw_903 (zi_cons zw_109 (zi_cons zw_496 (zi_cons zw_1251 (zi_cons zw_1252 (zi_cons zw_1253 (zi_cons zw_114 (zi_cons zw_453 (zi_cons zw_451 zi_nil))))))))))))))) (zi_app inX9 (zi_app inX11 (zi_app zi_k212_X11_isStretch (zi_app zi_k207_X6_hasWindow (zi_app zi_k292_X9_findNear zi_nil))))))
set_option maxHeartbeats 4000000 in
set_option maxRecDepth 100000 in
theorem k291_X11_near (l : Launch) (D : va_G) (zt : Nat × Nat × Nat × (Nat → Nat) × (Nat → Nat)) (q : Nat → Nat) (d : Nat → ClassId) (I : Nat → Int32) (A : Nat → Nat → Int32) (z1 : Int32) (z2 : Int32) (z3 : Int32) (hIv : IvX I A) : GM l D zt (tyX d) yX11_near wz_k291_X11_near ({ frames := 6, cells := 0, slots := 0, locals := 140 } : Room) [.ref (q 0), .int z1, .int z2, .int z3] (wX q d I A) (fun v _ w' => ∃ (I' : Nat → Int32) (A' : Nat → Nat → Int32), Md [28, 30, 31, 32, 33, 34, 38, 39] I I' ∧ Md [21, 22, 23, 30, 31] A A' ∧ IvX I' A' ∧ ∃ y0 : Int32, v = some (.int y0) ∧ w' = wX q d I' A') 0 0 := by
  refine GM.of (cc := cX11_near) (maxL := 4) (ret := (some .int)) (own := RX11) (lv := [(0, .ref (q 0)), (1, .int z1), (2, .int z2), (3, .int z3)]) (by decide) rfl rfl (Nat.le_of_ble_eq_true rfl) rfl (fun κ sz hk hR hN => ?_)
  have hin9 : ∀ w ∈ u_ws RX9 TX9 11, w ∈ wz_k291_X11_near := fun w h => (List.mem_cons_of_mem _ (List.mem_append_right _ (List.mem_append_left _ h)))
  have hin11 : ∀ w ∈ u_ws RX11 TX11 10, w ∈ wz_k291_X11_near := fun w h => (List.mem_cons_of_mem _ (List.mem_append_right _ (List.mem_append_right _ (List.mem_append_left _ h))))
  refine g_iload_n hk dX11_near_0 rfl ?_
  refine g_callS (n := 1) hk (k212_X11_isStretch l D zt q d I A z2 hIv) (SP.same _) (fun _ h => h) (gi_S (List.mem_cons_of_mem _ (List.mem_append_left _ (List.mem_of_getElem? (i := 0) rfl))) (List.mem_cons_of_mem _ (List.mem_append_left _ (List.mem_of_getElem? (i := 1) rfl))) (List.mem_cons_of_mem _ (List.mem_append_left _ (List.mem_of_getElem? (i := 2) rfl))) (gi_sub (fun w h => (List.mem_cons_of_mem _ (List.mem_append_right _ (List.mem_append_right _ (List.mem_append_right _ (List.mem_append_left _ h)))))) zg_k212_X11_isStretch)) rfl rfl rfl (by decide +kernel) ⟨Nat.le_of_ble_eq_true rfl, Nat.le_of_ble_eq_true rfl⟩ rfl rfl (Nat.le_of_ble_eq_true rfl) ⟨Nat.le_of_ble_eq_true rfl, Nat.le_of_ble_eq_true rfl⟩ dX11_near_1 (fun v ty' w' hp hk' => ?_)
  rcases hp with ⟨rfl, rfl⟩ | ⟨c8702, c8703, c8704, c8705, rfl, rfl⟩
  · skip
    show GW κ 4 0 0 (wX q d I A) 4 [(0, .ref (q 0)), (1, .int z1), (2, .int z2), (3, .int z3)] [.int 0]
    refine g_if_eq (tgt := 28) (a := 0) hk dX11_near_4 (by decide) rfl (fun _ => ?_) (fun z9 => absurd (show (0 : Int) = (0 : Int) from by decide) z9)
    refine g_iconst (v := (-1)) hk dX11_near_28 (by decide) ?_
    exact g_iret hk hR rfl ⟨I, A, (show Md [28, 30, 31, 32, 33, 34, 38, 39] I I from Md.rf), (show Md [21, 22, 23, 30, 31] A A from Md.rf), hIv, (-1), rfl, rfl⟩ dX11_near_29
  · skip
    show GW κ 4 0 0 (wX q d I A) 4 [(0, .ref (q 0)), (1, .int z1), (2, .int z2), (3, .int z3)] [.int 1]
    refine g_if_eq (tgt := 28) (a := 1) hk dX11_near_4 (by decide) rfl (fun z9 => absurd z9 (show ¬ ((1 : Int) = (0 : Int)) from by decide)) (fun _ => ?_)
    refine g_iload_n hk dX11_near_7 rfl ?_
    have b8707l := Int32.le_toInt z3
    have b8707h := Int32.toInt_lt z3
    refine g_if_lt (tgt := 28) (a := z3.toInt) hk dX11_near_8 (by decide) rfl (fun c8708 => ?_) (fun c8708 => ?_)
    · skip
      refine g_iconst (v := (-1)) hk dX11_near_28 (by decide) ?_
      exact g_iret hk hR rfl ⟨I, A, (show Md [28, 30, 31, 32, 33, 34, 38, 39] I I from Md.rf), (show Md [21, 22, 23, 30, 31] A A from Md.rf), hIv, (-1), rfl, rfl⟩ dX11_near_29
    · skip
      refine g_iload_n hk dX11_near_11 rfl ?_
      refine g_iconst (v := 1) hk dX11_near_12 (by decide) ?_
      refine g_icmp_gt (tgt := 28) (a := z3.toInt) (b := 1) hk dX11_near_13 (by decide) rfl rfl (fun c8709 => ?_) (fun c8709 => ?_)
      · skip
        refine g_iconst (v := (-1)) hk dX11_near_28 (by decide) ?_
        exact g_iret hk hR rfl ⟨I, A, (show Md [28, 30, 31, 32, 33, 34, 38, 39] I I from Md.rf), (show Md [21, 22, 23, 30, 31] A A from Md.rf), hIv, (-1), rfl, rfl⟩ dX11_near_29
      · skip
        refine g_aload_n hk dX11_near_16 rfl ?_
        refine gX_r0_2 hk hin11 (List.mem_cons_of_mem _ (List.mem_append_left _ (List.mem_of_getElem? (i := 3) rfl))) dX11_near_17 ?_
        refine g_iload_n hk dX11_near_20 rfl ?_
        refine g_iload_n hk dX11_near_21 rfl ?_
        refine g_callV (n := 2) hk (k207_X6_hasWindow l D zt q d I A z1 z2 hIv) (SP.same _) (fun _ h => h) (gi_V (List.mem_cons_of_mem _ (List.mem_append_left _ (List.mem_of_getElem? (i := 4) rfl))) (List.mem_cons_of_mem _ (List.mem_append_left _ (List.mem_of_getElem? (i := 5) rfl))) (List.mem_cons_of_mem _ (List.mem_append_left _ (List.mem_of_getElem? (i := 6) rfl))) (List.mem_cons_of_mem _ (List.mem_append_left _ (List.mem_of_getElem? (i := 7) rfl))) (gi_sub (fun w h => (List.mem_cons_of_mem _ (List.mem_append_right _ (List.mem_append_right _ (List.mem_append_right _ (List.mem_append_right _ (List.mem_append_left _ h))))))) zg_k207_X6_hasWindow)) rfl rfl rfl (by decide +kernel) ⟨Nat.le_of_ble_eq_true rfl, Nat.le_of_ble_eq_true rfl⟩ 13 rfl rfl rfl rfl (Nat.le_of_ble_eq_true rfl) ⟨Nat.le_of_ble_eq_true rfl, Nat.le_of_ble_eq_true rfl⟩ dX11_near_22 (fun v ty' w' hp hk' => ?_)
        rcases hp with ⟨rfl, rfl⟩ | ⟨c8711, c8712, c8713, c8714, c8715, c8716, rfl, rfl⟩
        · skip
          show GW κ 4 0 0 (wX q d I A) 25 [(0, .ref (q 0)), (1, .int z1), (2, .int z2), (3, .int z3)] [.int 0]
          refine g_if_ne (tgt := 30) (a := 0) hk dX11_near_25 (by decide) rfl (fun z9 => absurd z9 (show ¬ ((0 : Int) ≠ (0 : Int)) from by decide)) (fun _ => ?_)
          refine g_iconst (v := (-1)) hk dX11_near_28 (by decide) ?_
          exact g_iret hk hR rfl ⟨I, A, (show Md [28, 30, 31, 32, 33, 34, 38, 39] I I from Md.rf), (show Md [21, 22, 23, 30, 31] A A from Md.rf), hIv, (-1), rfl, rfl⟩ dX11_near_29
        · skip
          show GW κ 4 0 0 (wX q d I A) 25 [(0, .ref (q 0)), (1, .int z1), (2, .int z2), (3, .int z3)] [.int 1]
          refine g_if_ne (tgt := 30) (a := 1) hk dX11_near_25 (by decide) rfl (fun _ => ?_) (fun z9 => absurd (show (1 : Int) ≠ (0 : Int) from by decide) z9)
          refine g_aload_n hk dX11_near_30 rfl ?_
          refine gX_r0_9 hk hin11 (List.mem_cons_of_mem _ (List.mem_append_left _ (List.mem_of_getElem? (i := 8) rfl))) dX11_near_31 ?_
          refine g_iload_n hk dX11_near_34 rfl ?_
          refine g_iload_n hk dX11_near_35 rfl ?_
          refine g_callV (n := 2) hk (k292_X9_findNear l D zt q d I A z1 z2 hIv) (SP.same _) (fun _ h => h) (gi_V (List.mem_cons_of_mem _ (List.mem_append_left _ (List.mem_of_getElem? (i := 9) rfl))) (List.mem_cons_of_mem _ (List.mem_append_left _ (List.mem_of_getElem? (i := 10) rfl))) (List.mem_cons_of_mem _ (List.mem_append_left _ (List.mem_of_getElem? (i := 11) rfl))) (List.mem_cons_of_mem _ (List.mem_append_left _ (List.mem_of_getElem? (i := 12) rfl))) (gi_sub (fun w h => (List.mem_cons_of_mem _ (List.mem_append_right _ (List.mem_append_right _ (List.mem_append_right _ (List.mem_append_right _ (List.mem_append_right _ (List.mem_append_left _ h)))))))) zg_k292_X9_findNear)) rfl rfl rfl (by decide +kernel) ⟨Nat.le_of_ble_eq_true rfl, Nat.le_of_ble_eq_true rfl⟩ 49 rfl rfl rfl rfl (Nat.le_of_ble_eq_true rfl) ⟨Nat.le_of_ble_eq_true rfl, Nat.le_of_ble_eq_true rfl⟩ dX11_near_36 (fun v ty' w' hp hk' => ?_)
          obtain ⟨I9157, A9157, hI9157, hA9157, hV9157, rfl, rfl⟩ := hp
          show GW κ 4 0 0 (wX q d I9157 A9157) 39 [(0, .ref (q 0)), (1, .int z1), (2, .int z2), (3, .int z3)] []
          refine g_iload_n hk dX11_near_39 rfl ?_
          refine g_if_ne (tgt := 53) (a := z3.toInt) hk dX11_near_40 (by decide) rfl (fun c9158 => ?_) (fun c9158 => ?_)
          · skip
            refine g_aload_n hk dX11_near_53 rfl ?_
            refine gX_r0_9 hk hin11 (List.mem_cons_of_mem _ (List.mem_append_left _ (List.mem_of_getElem? (i := 8) rfl))) dX11_near_54 ?_
            refine gX_i39 (v := (I9157 39)) hk hin9 (List.mem_cons_of_mem _ (List.mem_append_left _ (List.mem_of_getElem? (i := 13) rfl))) dX11_near_57 rfl ?_
            have b9159l := Int32.le_toInt (I9157 39)
            have b9159h := Int32.toInt_lt (I9157 39)
            exact g_iret hk hR rfl ⟨I9157, A9157, (show Md [28, 30, 31, 32, 33, 34, 38, 39] I I9157 from (Md.tr Md.rf hI9157 rfl)), (show Md [21, 22, 23, 30, 31] A A9157 from (Md.tr Md.rf hA9157 rfl)), hV9157, (I9157 39), rfl, rfl⟩ dX11_near_60
          · skip
            refine g_aload_n hk dX11_near_43 rfl ?_
            refine gX_r0_9 hk hin11 (List.mem_cons_of_mem _ (List.mem_append_left _ (List.mem_of_getElem? (i := 8) rfl))) dX11_near_44 ?_
            refine gX_i38 (v := (I9157 38)) hk hin9 (List.mem_cons_of_mem _ (List.mem_append_left _ (List.mem_of_getElem? (i := 14) rfl))) dX11_near_47 rfl ?_
            refine g_goto (tgt := 60) hk dX11_near_50 (by decide) ?_
            have b9160l := Int32.le_toInt (I9157 38)
            have b9160h := Int32.toInt_lt (I9157 38)
            exact g_iret hk hR rfl ⟨I9157, A9157, (show Md [28, 30, 31, 32, 33, 34, 38, 39] I I9157 from (Md.tr Md.rf hI9157 rfl)), (show Md [21, 22, 23, 30, 31] A A9157 from (Md.tr Md.rf hA9157 rfl)), hV9157, (I9157 38), rfl, rfl⟩ dX11_near_60
def wo_k303_X9_seekPairOf : List Cond := [Cond.fieldLink RX9 15 "WarpDesk$Stretches" "isThere" "[Z", Cond.fieldLink RX9 29 "WarpDesk$Stretches" "fit" "LWarpDesk$Fit;", Cond.fieldLink RX9 9 "WarpDesk$Stretches" "rows" "[I", Cond.methodLink RX9 75 yX2_takeRight, Cond.instanceMethod yX2_takeRight, Cond.selects RX2 yX2_takeRight yX2_takeRight, Cond.initialized RX2, Cond.fieldLink RX9 92 "WarpDesk$Stretches" "pairDistance" "I", Cond.methodLink RX9 78 yX2_isLess, Cond.instanceMethod yX2_isLess, Cond.selects RX2 yX2_isLess yX2_isLess, Cond.fieldLink RX9 86 "WarpDesk$Stretches" "pairLesser" "I", Cond.fieldLink RX9 89 "WarpDesk$Stretches" "pairGreater" "I", Cond.methodLink RX9 82 yX2_laidDistance, Cond.instanceMethod yX2_laidDistance, Cond.selects RX2 yX2_laidDistance yX2_laidDistance, Cond.constant RX9 65 (2147483647)]
def wz_k303_X9_seekPairOf : List Cond := .code yX9_seekPairOf cX9_seekPairOf 4 none :: (wo_k303_X9_seekPairOf ++ (wsX90 ++ (wz_k299_X2_takeRight ++ (wz_k264_X2_isLess ++ (wz_k237_X2_laidDistance ++ ([] : List Cond))))))
theorem zg_k303_X9_seekPairOf : ∀ w ∈ wz_k303_X9_seekPairOf, goodWord w = true := zg_cons rfl (zg_app (by decide +kernel) (zg_app zgU_wsX90 (zg_app zg_k299_X2_takeRight (zg_app zg_k264_X2_isLess (zg_app zg_k237_X2_laidDistance zg_nil)))))
theorem zi_k303_X9_seekPairOf : ∀ w ∈ wz_k303_X9_seekPairOf, w ∈ lw_tbl := zi_cons zw_1296 (zi_app (zi_cons zw_449 (zi_cons zw_447 (zi_cons zw_448 (zi_cons zw_1279 (zi_cons zw_1280 (zi_cons zw_1281 (zi_cons zw_112 (zi_cons zw_458 (zi_cons zw_1283 (zi_cons zw_1125 (zi_cons zw_1126 (zi_cons zw_454 (zi_cons zw_456 (zi_cons zw_1284 (zi_cons zw_1014 (zi_cons zw_1015 (zi_cons zw_1273 zi_nil))))))))))))))))) (zi_app inX9 (zi_app zi_k299_X2_takeRight (zi_app zi_k264_X2_isLess (zi_app zi_k237_X2_laidDistance zi_nil)))))
set_option maxHeartbeats 4000000 in
set_option maxRecDepth 100000 in
theorem k303_X9_seekPairOf (l : Launch) (D : va_G) (zt : Nat × Nat × Nat × (Nat → Nat) × (Nat → Nat)) (q : Nat → Nat) (d : Nat → ClassId) (I : Nat → Int32) (A : Nat → Nat → Int32) (z1 : Int32) (z2 : Int32) (hIv : IvX I A) (hp0 : 0 ≤ z1.toInt) (hp1 : z1.toInt ≤ 159) (hp2 : 2 ≤ z2.toInt) (hp3 : z2.toInt ≤ 16) : GM l D zt (tyX d) yX9_seekPairOf wz_k303_X9_seekPairOf ({ frames := 4, cells := 0, slots := 0, locals := 93 } : Room) [.ref (q 49), .int z1, .int z2] (wX q d I A) (fun v _ w' => ∃ (I' : Nat → Int32) (A' : Nat → Nat → Int32), Md [33, 34, 40, 41, 42] I I' ∧ Md [22, 23] A A' ∧ IvX I' A' ∧ v = none ∧ w' = wX q d I' A') 0 0 := by
  refine GM.of (cc := cX9_seekPairOf) (maxL := 4) (ret := none) (own := RX9) (lv := [(0, .ref (q 49)), (1, .int z1), (2, .int z2)]) (by decide) rfl rfl (Nat.le_of_ble_eq_true rfl) rfl (fun κ sz hk hR hN => ?_)
  have hin9 : ∀ w ∈ u_ws RX9 TX9 11, w ∈ wz_k303_X9_seekPairOf := fun w h => (List.mem_cons_of_mem _ (List.mem_append_right _ (List.mem_append_left _ h)))
  refine g_iload_n hk dX9_seekPairOf_0 rfl ?_
  refine g_iload_n hk dX9_seekPairOf_1 rfl ?_
  refine g_iadd hk dX9_seekPairOf_2 ?_
  refine g_topi (fun y9181 ey9181 => ?_)
  have hy9181 : y9181.toInt = z1.toInt + z2.toInt := i32_add ey9181 rfl rfl (by omega) (by omega)
  refine g_istore_n (lv' := [(3, .int y9181), (0, .ref (q 49)), (1, .int z1), (2, .int z2)]) hk dX9_seekPairOf_3 (by decide) rfl ?_
  have lp9241 : ∀ (n9242 : Nat) (x9182 : Int32) (I9186 : Nat → Int32) (A9186 : Nat → Nat → Int32), (Md [33, 34, 40, 41, 42] I I9186) → (Md [22, 23] A A9186) → (IvX I9186 A9186) → (2 ≤ x9182.toInt) → (x9182.toInt ≤ 175) → (161 - x9182.toInt < (n9242 : Int)) → (0 < n9242) → GW κ 4 0 0 (wX q d I9186 A9186) 4 [(3, .int x9182), (0, .ref (q 49)), (1, .int z1), (2, .int z2)] [] := by
    intro n9242
    induction n9242 with
    | zero =>
      intro x9182 I9186 A9186 hI9186 hA9186 hV9186 h9239 h9240 m9243 m9243z
      exact absurd m9243z (Nat.lt_irrefl 0)
    | succ n9242 ih =>
      intro x9182 I9186 A9186 hI9186 hA9186 hV9186 h9239 h9240 m9243 m9243z
      refine g_iload_n hk dX9_seekPairOf_4 rfl ?_
      refine g_sipush (v := 160) hk dX9_seekPairOf_5 (by decide) ?_
      refine g_icmp_ge (tgt := 91) (a := x9182.toInt) (b := 160) hk dX9_seekPairOf_8 (by decide) rfl rfl (fun c9244 => ?_) (fun c9244 => ?_)
      · skip
        exact g_vret hk hR ⟨I9186, A9186, (show Md [33, 34, 40, 41, 42] I I9186 from (Md.tr Md.rf hI9186 rfl)), (show Md [22, 23] A A9186 from (Md.tr Md.rf hA9186 rfl)), hV9186, rfl, rfl⟩ dX9_seekPairOf_91
      · skip
        refine g_aload_n hk dX9_seekPairOf_11 rfl ?_
        refine gX_r49_3 hk hin9 (List.mem_cons_of_mem _ (List.mem_append_left _ (List.mem_of_getElem? (i := 0) rfl))) dX9_seekPairOf_12 ?_
        refine g_iload_n hk dX9_seekPairOf_15 rfl ?_
        refine lX_31 (v := (A 31 x9182.toNatClampNeg)) hk (vp_in_iff.mpr ⟨by omega, by omega⟩) (congrFun (hA9186 31 rfl) _) dX9_seekPairOf_16 ?_
        have b9245l := Int32.le_toInt (A 31 x9182.toNatClampNeg)
        have b9245h := Int32.toInt_lt (A 31 x9182.toNatClampNeg)
        refine g_if_ne (tgt := 23) (a := (A 31 x9182.toNatClampNeg).toInt) hk dX9_seekPairOf_17 (by decide) rfl (fun c9246 => ?_) (fun c9246 => ?_)
        · skip
          refine g_aload_n hk dX9_seekPairOf_23 rfl ?_
          refine gX_r49_1 hk hin9 (List.mem_cons_of_mem _ (List.mem_append_left _ (List.mem_of_getElem? (i := 1) rfl))) dX9_seekPairOf_24 ?_
          refine g_aload_n hk dX9_seekPairOf_27 rfl ?_
          refine gX_r49_2 hk hin9 (List.mem_cons_of_mem _ (List.mem_append_left _ (List.mem_of_getElem? (i := 2) rfl))) dX9_seekPairOf_28 ?_
          refine g_iload_n hk dX9_seekPairOf_31 rfl ?_
          refine g_bipush (v := 16) hk dX9_seekPairOf_32 (by decide) ?_
          refine g_imul hk dX9_seekPairOf_34 ?_
          refine g_topi (fun y9247 ey9247 => ?_)
          have hy9247 : y9247.toInt = x9182.toInt * 16 := i32_mul ey9247 rfl rfl (by omega) (by omega)
          refine g_callV (n := 2) hk (k299_X2_takeRight l D zt q d I9186 A9186 y9247 hV9186) (SP.same _) (fun _ h => h) (gi_V (List.mem_cons_of_mem _ (List.mem_append_left _ (List.mem_of_getElem? (i := 3) rfl))) (List.mem_cons_of_mem _ (List.mem_append_left _ (List.mem_of_getElem? (i := 4) rfl))) (List.mem_cons_of_mem _ (List.mem_append_left _ (List.mem_of_getElem? (i := 5) rfl))) (List.mem_cons_of_mem _ (List.mem_append_left _ (List.mem_of_getElem? (i := 6) rfl))) (gi_sub (fun w h => (List.mem_cons_of_mem _ (List.mem_append_right _ (List.mem_append_right _ (List.mem_append_left _ h))))) zg_k299_X2_takeRight)) rfl rfl rfl (by decide +kernel) ⟨Nat.le_of_ble_eq_true rfl, Nat.le_of_ble_eq_true rfl⟩ 38 rfl rfl rfl rfl (Nat.le_of_ble_eq_true rfl) ⟨Nat.le_of_ble_eq_true rfl, Nat.le_of_ble_eq_true rfl⟩ dX9_seekPairOf_35 (fun v ty' w' hp hk' => ?_)
          obtain ⟨I9249, A9249, hI9249, hA9249, hV9249, rfl, rfl⟩ := hp
          show GW κ 4 0 0 (wX q d I9249 A9249) 38 [(3, .int x9182), (0, .ref (q 49)), (1, .int z1), (2, .int z2)] []
          refine g_aload_n hk dX9_seekPairOf_38 rfl ?_
          refine gX_r49_1 hk hin9 (List.mem_cons_of_mem _ (List.mem_append_left _ (List.mem_of_getElem? (i := 1) rfl))) dX9_seekPairOf_39 ?_
          refine g_aload_n hk dX9_seekPairOf_42 rfl ?_
          refine gX_i42 (v := (I9186 42)) hk hin9 (List.mem_cons_of_mem _ (List.mem_append_left _ (List.mem_of_getElem? (i := 7) rfl))) dX9_seekPairOf_43 (hI9249 42 rfl) ?_
          have b9250l := Int32.le_toInt (I9186 42)
          have b9250h := Int32.toInt_lt (I9186 42)
          refine g_if_ge (tgt := 54) (a := (I9186 42).toInt) hk dX9_seekPairOf_46 (by decide) rfl (fun c9251 => ?_) (fun c9251 => ?_)
          · skip
            refine g_aload_n hk dX9_seekPairOf_54 rfl ?_
            refine gX_i42 (v := (I9186 42)) hk hin9 (List.mem_cons_of_mem _ (List.mem_append_left _ (List.mem_of_getElem? (i := 7) rfl))) dX9_seekPairOf_55 (hI9249 42 rfl) ?_
            refine g_callV (n := 1) hk (k264_X2_isLess l D zt q d I9249 A9249 (I9186 42) hV9249) (SP.same _) (fun _ h => h) (gi_V (List.mem_cons_of_mem _ (List.mem_append_left _ (List.mem_of_getElem? (i := 8) rfl))) (List.mem_cons_of_mem _ (List.mem_append_left _ (List.mem_of_getElem? (i := 9) rfl))) (List.mem_cons_of_mem _ (List.mem_append_left _ (List.mem_of_getElem? (i := 10) rfl))) (List.mem_cons_of_mem _ (List.mem_append_left _ (List.mem_of_getElem? (i := 6) rfl))) (gi_sub (fun w h => (List.mem_cons_of_mem _ (List.mem_append_right _ (List.mem_append_right _ (List.mem_append_right _ (List.mem_append_left _ h)))))) zg_k264_X2_isLess)) rfl rfl rfl (by decide +kernel) ⟨Nat.le_of_ble_eq_true rfl, Nat.le_of_ble_eq_true rfl⟩ 38 rfl rfl rfl rfl (Nat.le_of_ble_eq_true rfl) ⟨Nat.le_of_ble_eq_true rfl, Nat.le_of_ble_eq_true rfl⟩ dX9_seekPairOf_58 (fun v ty' w' hp hk' => ?_)
            obtain ⟨I9255, A9255, hI9255, hA9255, hV9255, y9252, c9253, c9254, rfl, rfl⟩ := hp
            show GW κ 4 0 0 (wX q d I9255 A9255) 61 [(3, .int x9182), (0, .ref (q 49)), (1, .int z1), (2, .int z2)] [.int y9252]
            refine g_if_eq (tgt := 85) (a := y9252.toInt) hk dX9_seekPairOf_61 (by decide) rfl (fun c9256 => ?_) (fun c9256 => ?_)
            · skip
              obtain ⟨y9257, ey9257⟩ : ∃ y : Int32, y = x9182 + Int32.ofInt 1 := ⟨_, rfl⟩
              have hy9257 : y9257.toInt = x9182.toInt + 1 := i32_add ey9257 rfl (by decide) (by omega) (by omega)
              refine g_iinc (v := y9257) (lv' := [(3, .int y9257), (0, .ref (q 49)), (1, .int z1), (2, .int z2)]) hk 0 dX9_seekPairOf_85 rfl ey9257.symm (by decide) rfl ?_
              refine g_goto (tgt := 4) hk dX9_seekPairOf_88 (by decide) ?_
              exact g_lv (List.forall_mem_cons.mpr ⟨List.mem_of_getElem? (i := 0) rfl, (List.forall_mem_cons.mpr ⟨List.mem_of_getElem? (i := 1) rfl, (List.forall_mem_cons.mpr ⟨List.mem_of_getElem? (i := 2) rfl, (List.forall_mem_cons.mpr ⟨List.mem_of_getElem? (i := 3) rfl, (fun _ h => absurd h List.not_mem_nil)⟩)⟩)⟩)⟩) (ih y9257 I9255 A9255 (show Md [33, 34, 40, 41, 42] I I9255 from Md.tr hI9186 (show Md [33, 34, 40, 41, 42] I9186 I9255 from (Md.tr (Md.tr Md.rf hI9249 rfl) hI9255 rfl)) rfl) (show Md [22, 23] A A9255 from Md.tr hA9186 (show Md [22, 23] A9186 A9255 from (Md.tr (Md.tr Md.rf hA9249 rfl) hA9255 rfl)) rfl) hV9255 (by omega) (by omega) (by omega) (by omega))
            · skip
              refine g_aload_n hk dX9_seekPairOf_64 rfl ?_
              refine g_iload_n hk dX9_seekPairOf_65 rfl ?_
              refine pX_i40 hk hin9 (List.mem_cons_of_mem _ (List.mem_append_left _ (List.mem_of_getElem? (i := 11) rfl))) dX9_seekPairOf_66 ?_
              refine g_aload_n hk dX9_seekPairOf_69 rfl ?_
              refine g_iload_n hk dX9_seekPairOf_70 rfl ?_
              refine pX_i41 hk hin9 (List.mem_cons_of_mem _ (List.mem_append_left _ (List.mem_of_getElem? (i := 12) rfl))) dX9_seekPairOf_71 ?_
              refine g_aload_n hk dX9_seekPairOf_74 rfl ?_
              refine g_aload_n hk dX9_seekPairOf_75 rfl ?_
              refine gX_r49_1 hk hin9 (List.mem_cons_of_mem _ (List.mem_append_left _ (List.mem_of_getElem? (i := 1) rfl))) dX9_seekPairOf_76 ?_
              refine g_callV (n := 0) hk (k237_X2_laidDistance l D zt q d (upd (upd I9255 40 z1) 41 x9182) A9255  ⟨(IvX_f0 (I := I9255) (A := A9255) hV9255), (IvX_f18 (I := I9255) (A := A9255) hV9255), (IvX_f30 (I := I9255) (A := A9255) hV9255), (IvX_f31 (I := I9255) (A := A9255) hV9255), (IvX_a4 (I := I9255) (A := A9255) hV9255), (IvX_a9 (I := I9255) (A := A9255) hV9255), trivial⟩) (SP.same _) (fun _ h => h) (gi_V (List.mem_cons_of_mem _ (List.mem_append_left _ (List.mem_of_getElem? (i := 13) rfl))) (List.mem_cons_of_mem _ (List.mem_append_left _ (List.mem_of_getElem? (i := 14) rfl))) (List.mem_cons_of_mem _ (List.mem_append_left _ (List.mem_of_getElem? (i := 15) rfl))) (List.mem_cons_of_mem _ (List.mem_append_left _ (List.mem_of_getElem? (i := 6) rfl))) (gi_sub (fun w h => (List.mem_cons_of_mem _ (List.mem_append_right _ (List.mem_append_right _ (List.mem_append_right _ (List.mem_append_right _ (List.mem_append_left _ h))))))) zg_k237_X2_laidDistance)) rfl rfl rfl (by decide +kernel) ⟨Nat.le_of_ble_eq_true rfl, Nat.le_of_ble_eq_true rfl⟩ 38 rfl rfl rfl rfl (Nat.le_of_ble_eq_true rfl) ⟨Nat.le_of_ble_eq_true rfl, Nat.le_of_ble_eq_true rfl⟩ dX9_seekPairOf_79 (fun v ty' w' hp hk' => ?_)
              obtain ⟨y9258, rfl, rfl⟩ := hp
              show GW κ 4 0 0 (wX q d (upd (upd I9255 40 z1) 41 x9182) A9255) 82 [(3, .int x9182), (0, .ref (q 49)), (1, .int z1), (2, .int z2)] [.int y9258, .ref (q 49)]
              refine pX_i42 hk hin9 (List.mem_cons_of_mem _ (List.mem_append_left _ (List.mem_of_getElem? (i := 7) rfl))) dX9_seekPairOf_82 ?_
              obtain ⟨y9259, ey9259⟩ : ∃ y : Int32, y = x9182 + Int32.ofInt 1 := ⟨_, rfl⟩
              have hy9259 : y9259.toInt = x9182.toInt + 1 := i32_add ey9259 rfl (by decide) (by omega) (by omega)
              refine g_iinc (v := y9259) (lv' := [(3, .int y9259), (0, .ref (q 49)), (1, .int z1), (2, .int z2)]) hk 0 dX9_seekPairOf_85 rfl ey9259.symm (by decide) rfl ?_
              refine g_goto (tgt := 4) hk dX9_seekPairOf_88 (by decide) ?_
              exact g_lv (List.forall_mem_cons.mpr ⟨List.mem_of_getElem? (i := 0) rfl, (List.forall_mem_cons.mpr ⟨List.mem_of_getElem? (i := 1) rfl, (List.forall_mem_cons.mpr ⟨List.mem_of_getElem? (i := 2) rfl, (List.forall_mem_cons.mpr ⟨List.mem_of_getElem? (i := 3) rfl, (fun _ h => absurd h List.not_mem_nil)⟩)⟩)⟩)⟩) (ih y9259 (upd (upd (upd I9255 40 z1) 41 x9182) 42 y9258) A9255 (show Md [33, 34, 40, 41, 42] I (upd (upd (upd I9255 40 z1) 41 x9182) 42 y9258) from Md.tr hI9186 (show Md [33, 34, 40, 41, 42] I9186 (upd (upd (upd I9255 40 z1) 41 x9182) 42 y9258) from (Md.up (Md.up (Md.up (Md.tr (Md.tr Md.rf hI9249 rfl) hI9255 rfl) rfl) rfl) rfl)) rfl) (show Md [22, 23] A A9255 from Md.tr hA9186 (show Md [22, 23] A9186 A9255 from (Md.tr (Md.tr Md.rf hA9249 rfl) hA9255 rfl)) rfl) ⟨(IvX_f0 (I := I9255) (A := A9255) hV9255), (IvX_f18 (I := I9255) (A := A9255) hV9255), (IvX_f30 (I := I9255) (A := A9255) hV9255), (IvX_f31 (I := I9255) (A := A9255) hV9255), (IvX_a4 (I := I9255) (A := A9255) hV9255), (IvX_a9 (I := I9255) (A := A9255) hV9255), trivial⟩ (by omega) (by omega) (by omega) (by omega))
          · skip
            refine g_ldc (v := 2147483647) hk (List.mem_cons_of_mem _ (List.mem_append_left _ (List.mem_of_getElem? (i := 16) rfl))) dX9_seekPairOf_49 ?_
            refine g_goto (tgt := 58) hk dX9_seekPairOf_51 (by decide) ?_
            have k9260 : (2147483647 : Int32).toInt = 2147483647 := rfl
            refine g_callV (n := 1) hk (k264_X2_isLess l D zt q d I9249 A9249 2147483647 hV9249) (SP.same _) (fun _ h => h) (gi_V (List.mem_cons_of_mem _ (List.mem_append_left _ (List.mem_of_getElem? (i := 8) rfl))) (List.mem_cons_of_mem _ (List.mem_append_left _ (List.mem_of_getElem? (i := 9) rfl))) (List.mem_cons_of_mem _ (List.mem_append_left _ (List.mem_of_getElem? (i := 10) rfl))) (List.mem_cons_of_mem _ (List.mem_append_left _ (List.mem_of_getElem? (i := 6) rfl))) (gi_sub (fun w h => (List.mem_cons_of_mem _ (List.mem_append_right _ (List.mem_append_right _ (List.mem_append_right _ (List.mem_append_left _ h)))))) zg_k264_X2_isLess)) rfl rfl rfl (by decide +kernel) ⟨Nat.le_of_ble_eq_true rfl, Nat.le_of_ble_eq_true rfl⟩ 38 rfl rfl rfl rfl (Nat.le_of_ble_eq_true rfl) ⟨Nat.le_of_ble_eq_true rfl, Nat.le_of_ble_eq_true rfl⟩ dX9_seekPairOf_58 (fun v ty' w' hp hk' => ?_)
            obtain ⟨I9264, A9264, hI9264, hA9264, hV9264, y9261, c9262, c9263, rfl, rfl⟩ := hp
            show GW κ 4 0 0 (wX q d I9264 A9264) 61 [(3, .int x9182), (0, .ref (q 49)), (1, .int z1), (2, .int z2)] [.int y9261]
            refine g_if_eq (tgt := 85) (a := y9261.toInt) hk dX9_seekPairOf_61 (by decide) rfl (fun c9265 => ?_) (fun c9265 => ?_)
            · skip
              obtain ⟨y9266, ey9266⟩ : ∃ y : Int32, y = x9182 + Int32.ofInt 1 := ⟨_, rfl⟩
              have hy9266 : y9266.toInt = x9182.toInt + 1 := i32_add ey9266 rfl (by decide) (by omega) (by omega)
              refine g_iinc (v := y9266) (lv' := [(3, .int y9266), (0, .ref (q 49)), (1, .int z1), (2, .int z2)]) hk 0 dX9_seekPairOf_85 rfl ey9266.symm (by decide) rfl ?_
              refine g_goto (tgt := 4) hk dX9_seekPairOf_88 (by decide) ?_
              exact g_lv (List.forall_mem_cons.mpr ⟨List.mem_of_getElem? (i := 0) rfl, (List.forall_mem_cons.mpr ⟨List.mem_of_getElem? (i := 1) rfl, (List.forall_mem_cons.mpr ⟨List.mem_of_getElem? (i := 2) rfl, (List.forall_mem_cons.mpr ⟨List.mem_of_getElem? (i := 3) rfl, (fun _ h => absurd h List.not_mem_nil)⟩)⟩)⟩)⟩) (ih y9266 I9264 A9264 (show Md [33, 34, 40, 41, 42] I I9264 from Md.tr hI9186 (show Md [33, 34, 40, 41, 42] I9186 I9264 from (Md.tr (Md.tr Md.rf hI9249 rfl) hI9264 rfl)) rfl) (show Md [22, 23] A A9264 from Md.tr hA9186 (show Md [22, 23] A9186 A9264 from (Md.tr (Md.tr Md.rf hA9249 rfl) hA9264 rfl)) rfl) hV9264 (by omega) (by omega) (by omega) (by omega))
            · skip
              refine g_aload_n hk dX9_seekPairOf_64 rfl ?_
              refine g_iload_n hk dX9_seekPairOf_65 rfl ?_
              refine pX_i40 hk hin9 (List.mem_cons_of_mem _ (List.mem_append_left _ (List.mem_of_getElem? (i := 11) rfl))) dX9_seekPairOf_66 ?_
              refine g_aload_n hk dX9_seekPairOf_69 rfl ?_
              refine g_iload_n hk dX9_seekPairOf_70 rfl ?_
              refine pX_i41 hk hin9 (List.mem_cons_of_mem _ (List.mem_append_left _ (List.mem_of_getElem? (i := 12) rfl))) dX9_seekPairOf_71 ?_
              refine g_aload_n hk dX9_seekPairOf_74 rfl ?_
              refine g_aload_n hk dX9_seekPairOf_75 rfl ?_
              refine gX_r49_1 hk hin9 (List.mem_cons_of_mem _ (List.mem_append_left _ (List.mem_of_getElem? (i := 1) rfl))) dX9_seekPairOf_76 ?_
              refine g_callV (n := 0) hk (k237_X2_laidDistance l D zt q d (upd (upd I9264 40 z1) 41 x9182) A9264  ⟨(IvX_f0 (I := I9264) (A := A9264) hV9264), (IvX_f18 (I := I9264) (A := A9264) hV9264), (IvX_f30 (I := I9264) (A := A9264) hV9264), (IvX_f31 (I := I9264) (A := A9264) hV9264), (IvX_a4 (I := I9264) (A := A9264) hV9264), (IvX_a9 (I := I9264) (A := A9264) hV9264), trivial⟩) (SP.same _) (fun _ h => h) (gi_V (List.mem_cons_of_mem _ (List.mem_append_left _ (List.mem_of_getElem? (i := 13) rfl))) (List.mem_cons_of_mem _ (List.mem_append_left _ (List.mem_of_getElem? (i := 14) rfl))) (List.mem_cons_of_mem _ (List.mem_append_left _ (List.mem_of_getElem? (i := 15) rfl))) (List.mem_cons_of_mem _ (List.mem_append_left _ (List.mem_of_getElem? (i := 6) rfl))) (gi_sub (fun w h => (List.mem_cons_of_mem _ (List.mem_append_right _ (List.mem_append_right _ (List.mem_append_right _ (List.mem_append_right _ (List.mem_append_left _ h))))))) zg_k237_X2_laidDistance)) rfl rfl rfl (by decide +kernel) ⟨Nat.le_of_ble_eq_true rfl, Nat.le_of_ble_eq_true rfl⟩ 38 rfl rfl rfl rfl (Nat.le_of_ble_eq_true rfl) ⟨Nat.le_of_ble_eq_true rfl, Nat.le_of_ble_eq_true rfl⟩ dX9_seekPairOf_79 (fun v ty' w' hp hk' => ?_)
              obtain ⟨y9267, rfl, rfl⟩ := hp
              show GW κ 4 0 0 (wX q d (upd (upd I9264 40 z1) 41 x9182) A9264) 82 [(3, .int x9182), (0, .ref (q 49)), (1, .int z1), (2, .int z2)] [.int y9267, .ref (q 49)]
              refine pX_i42 hk hin9 (List.mem_cons_of_mem _ (List.mem_append_left _ (List.mem_of_getElem? (i := 7) rfl))) dX9_seekPairOf_82 ?_
              obtain ⟨y9268, ey9268⟩ : ∃ y : Int32, y = x9182 + Int32.ofInt 1 := ⟨_, rfl⟩
              have hy9268 : y9268.toInt = x9182.toInt + 1 := i32_add ey9268 rfl (by decide) (by omega) (by omega)
              refine g_iinc (v := y9268) (lv' := [(3, .int y9268), (0, .ref (q 49)), (1, .int z1), (2, .int z2)]) hk 0 dX9_seekPairOf_85 rfl ey9268.symm (by decide) rfl ?_
              refine g_goto (tgt := 4) hk dX9_seekPairOf_88 (by decide) ?_
              exact g_lv (List.forall_mem_cons.mpr ⟨List.mem_of_getElem? (i := 0) rfl, (List.forall_mem_cons.mpr ⟨List.mem_of_getElem? (i := 1) rfl, (List.forall_mem_cons.mpr ⟨List.mem_of_getElem? (i := 2) rfl, (List.forall_mem_cons.mpr ⟨List.mem_of_getElem? (i := 3) rfl, (fun _ h => absurd h List.not_mem_nil)⟩)⟩)⟩)⟩) (ih y9268 (upd (upd (upd I9264 40 z1) 41 x9182) 42 y9267) A9264 (show Md [33, 34, 40, 41, 42] I (upd (upd (upd I9264 40 z1) 41 x9182) 42 y9267) from Md.tr hI9186 (show Md [33, 34, 40, 41, 42] I9186 (upd (upd (upd I9264 40 z1) 41 x9182) 42 y9267) from (Md.up (Md.up (Md.up (Md.tr (Md.tr Md.rf hI9249 rfl) hI9264 rfl) rfl) rfl) rfl)) rfl) (show Md [22, 23] A A9264 from Md.tr hA9186 (show Md [22, 23] A9186 A9264 from (Md.tr (Md.tr Md.rf hA9249 rfl) hA9264 rfl)) rfl) ⟨(IvX_f0 (I := I9264) (A := A9264) hV9264), (IvX_f18 (I := I9264) (A := A9264) hV9264), (IvX_f30 (I := I9264) (A := A9264) hV9264), (IvX_f31 (I := I9264) (A := A9264) hV9264), (IvX_a4 (I := I9264) (A := A9264) hV9264), (IvX_a9 (I := I9264) (A := A9264) hV9264), trivial⟩ (by omega) (by omega) (by omega) (by omega))
        · skip
          refine g_goto (tgt := 85) hk dX9_seekPairOf_20 (by decide) ?_
          obtain ⟨y9269, ey9269⟩ : ∃ y : Int32, y = x9182 + Int32.ofInt 1 := ⟨_, rfl⟩
          have hy9269 : y9269.toInt = x9182.toInt + 1 := i32_add ey9269 rfl (by decide) (by omega) (by omega)
          refine g_iinc (v := y9269) (lv' := [(3, .int y9269), (0, .ref (q 49)), (1, .int z1), (2, .int z2)]) hk 0 dX9_seekPairOf_85 rfl ey9269.symm (by decide) rfl ?_
          refine g_goto (tgt := 4) hk dX9_seekPairOf_88 (by decide) ?_
          exact g_lv (List.forall_mem_cons.mpr ⟨List.mem_of_getElem? (i := 0) rfl, (List.forall_mem_cons.mpr ⟨List.mem_of_getElem? (i := 1) rfl, (List.forall_mem_cons.mpr ⟨List.mem_of_getElem? (i := 2) rfl, (List.forall_mem_cons.mpr ⟨List.mem_of_getElem? (i := 3) rfl, (fun _ h => absurd h List.not_mem_nil)⟩)⟩)⟩)⟩) (ih y9269 I9186 A9186 (show Md [33, 34, 40, 41, 42] I I9186 from Md.tr hI9186 (show Md [33, 34, 40, 41, 42] I9186 I9186 from Md.rf) rfl) (show Md [22, 23] A A9186 from Md.tr hA9186 (show Md [22, 23] A9186 A9186 from Md.rf) rfl) hV9186 (by omega) (by omega) (by omega) (by omega))
  obtain ⟨n9270, n9270a, n9270b⟩ : ∃ n : Nat, 161 - y9181.toInt < (n : Int) ∧ 0 < n := ⟨((161 - y9181.toInt : Int)).toNat + 1, by omega, by omega⟩
  exact lp9241 n9270 y9181 I A Md.rf Md.rf hIv (by omega) (by omega) n9270a n9270b
def wo_k302_X9_findPair : List Cond := [Cond.fieldLink RX9 86 "WarpDesk$Stretches" "pairLesser" "I", Cond.fieldLink RX9 89 "WarpDesk$Stretches" "pairGreater" "I", Cond.fieldLink RX9 92 "WarpDesk$Stretches" "pairDistance" "I", Cond.methodLink RX9 50 yX9_bringAll, Cond.instanceMethod yX9_bringAll, Cond.selects RX9 yX9_bringAll yX9_bringAll, Cond.initialized RX9, Cond.fieldLink RX9 15 "WarpDesk$Stretches" "isThere" "[Z", Cond.fieldLink RX9 29 "WarpDesk$Stretches" "fit" "LWarpDesk$Fit;", Cond.fieldLink RX9 9 "WarpDesk$Stretches" "rows" "[I", Cond.methodLink RX9 66 yX2_takeLeft, Cond.instanceMethod yX2_takeLeft, Cond.selects RX2 yX2_takeLeft yX2_takeLeft, Cond.initialized RX2, Cond.methodLink RX9 95 yX9_seekPairOf, Cond.instanceMethod yX9_seekPairOf, Cond.selects RX9 yX9_seekPairOf yX9_seekPairOf]
def wz_k302_X9_findPair : List Cond := .code yX9_findPair cX9_findPair 3 none :: (wo_k302_X9_findPair ++ (wsX90 ++ (wz_k293_X9_bringAll ++ (wz_k297_X2_takeLeft ++ (wz_k303_X9_seekPairOf ++ ([] : List Cond))))))
theorem zg_k302_X9_findPair : ∀ w ∈ wz_k302_X9_findPair, goodWord w = true := zg_cons rfl (zg_app (by decide +kernel) (zg_app zgU_wsX90 (zg_app zg_k293_X9_bringAll (zg_app zg_k297_X2_takeLeft (zg_app zg_k303_X9_seekPairOf zg_nil)))))
theorem zi_k302_X9_findPair : ∀ w ∈ wz_k302_X9_findPair, w ∈ lw_tbl := zi_cons zw_1292 (zi_app (zi_cons zw_454 (zi_cons zw_456 (zi_cons zw_458 (zi_cons zw_1255 (zi_cons zw_1257 (zi_cons zw_39 (zi_cons zw_114 (zi_cons zw_449 (zi_cons zw_447 (zi_cons zw_448 (zi_cons zw_1274 (zi_cons zw_1275 (zi_cons zw_1276 (zi_cons zw_112 (zi_cons zw_1293 (zi_cons zw_1295 (zi_cons zw_42 zi_nil))))))))))))))))) (zi_app inX9 (zi_app zi_k293_X9_bringAll (zi_app zi_k297_X2_takeLeft (zi_app zi_k303_X9_seekPairOf zi_nil)))))
set_option maxHeartbeats 4000000 in
set_option maxRecDepth 100000 in
theorem k302_X9_findPair (l : Launch) (D : va_G) (zt : Nat × Nat × Nat × (Nat → Nat) × (Nat → Nat)) (q : Nat → Nat) (d : Nat → ClassId) (I : Nat → Int32) (A : Nat → Nat → Int32) (z1 : Int32) (hIv : IvX I A) (hp0 : 2 ≤ z1.toInt) (hp1 : z1.toInt ≤ 16) : GM l D zt (tyX d) yX9_findPair wz_k302_X9_findPair ({ frames := 5, cells := 0, slots := 0, locals := 116 } : Room) [.ref (q 49), .int z1] (wX q d I A) (fun v _ w' => ∃ (I' : Nat → Int32) (A' : Nat → Nat → Int32), Md [28, 30, 31, 32, 33, 34, 40, 41, 42] I I' ∧ Md [21, 22, 23, 30, 31] A A' ∧ IvX I' A' ∧ v = none ∧ w' = wX q d I' A') 0 0 := by
  refine GM.of (cc := cX9_findPair) (maxL := 3) (ret := none) (own := RX9) (lv := [(0, .ref (q 49)), (1, .int z1)]) (by decide) rfl rfl (Nat.le_of_ble_eq_true rfl) rfl (fun κ sz hk hR hN => ?_)
  have hin9 : ∀ w ∈ u_ws RX9 TX9 11, w ∈ wz_k302_X9_findPair := fun w h => (List.mem_cons_of_mem _ (List.mem_append_right _ (List.mem_append_left _ h)))
  refine g_aload_n hk dX9_findPair_0 rfl ?_
  refine g_bipush (v := (-2)) hk dX9_findPair_1 (by decide) ?_
  refine pX_i40 hk hin9 (List.mem_cons_of_mem _ (List.mem_append_left _ (List.mem_of_getElem? (i := 0) rfl))) dX9_findPair_3 ?_
  refine g_aload_n hk dX9_findPair_6 rfl ?_
  refine g_bipush (v := (-2)) hk dX9_findPair_7 (by decide) ?_
  refine pX_i41 hk hin9 (List.mem_cons_of_mem _ (List.mem_append_left _ (List.mem_of_getElem? (i := 1) rfl))) dX9_findPair_9 ?_
  refine g_aload_n hk dX9_findPair_12 rfl ?_
  refine g_bipush (v := (-2)) hk dX9_findPair_13 (by decide) ?_
  refine pX_i42 hk hin9 (List.mem_cons_of_mem _ (List.mem_append_left _ (List.mem_of_getElem? (i := 2) rfl))) dX9_findPair_15 ?_
  refine g_aload_n hk dX9_findPair_18 rfl ?_
  refine g_iload_n hk dX9_findPair_19 rfl ?_
  refine g_callV (n := 1) hk (k293_X9_bringAll l D zt q d (upd (upd (upd I 40 (-2)) 41 (-2)) 42 (-2)) A z1 ⟨(IvX_f0 (I := I) (A := A) hIv), (IvX_f18 (I := I) (A := A) hIv), (IvX_f30 (I := I) (A := A) hIv), (IvX_f31 (I := I) (A := A) hIv), (IvX_a4 (I := I) (A := A) hIv), (IvX_a9 (I := I) (A := A) hIv), trivial⟩) (SP.same _) (fun _ h => h) (gi_V (List.mem_cons_of_mem _ (List.mem_append_left _ (List.mem_of_getElem? (i := 3) rfl))) (List.mem_cons_of_mem _ (List.mem_append_left _ (List.mem_of_getElem? (i := 4) rfl))) (List.mem_cons_of_mem _ (List.mem_append_left _ (List.mem_of_getElem? (i := 5) rfl))) (List.mem_cons_of_mem _ (List.mem_append_left _ (List.mem_of_getElem? (i := 6) rfl))) (gi_sub (fun w h => (List.mem_cons_of_mem _ (List.mem_append_right _ (List.mem_append_right _ (List.mem_append_left _ h))))) zg_k293_X9_bringAll)) rfl rfl rfl (by decide +kernel) ⟨Nat.le_of_ble_eq_true rfl, Nat.le_of_ble_eq_true rfl⟩ 49 rfl rfl rfl rfl (Nat.le_of_ble_eq_true rfl) ⟨Nat.le_of_ble_eq_true rfl, Nat.le_of_ble_eq_true rfl⟩ dX9_findPair_20 (fun v ty' w' hp hk' => ?_)
  obtain ⟨I9171, A9171, hI9171, hA9171, hV9171, rfl, rfl⟩ := hp
  show GW κ 3 0 0 (wX q d I9171 A9171) 23 [(0, .ref (q 49)), (1, .int z1)] []
  refine g_iconst (v := 0) hk dX9_findPair_23 (by decide) ?_
  refine g_istore_n (lv' := [(2, .int 0), (0, .ref (q 49)), (1, .int z1)]) hk dX9_findPair_24 (by decide) rfl ?_
  have lp9305 : ∀ (n9306 : Nat) (x9172 : Int32) (I9175 : Nat → Int32) (A9175 : Nat → Nat → Int32), (Md [33, 34, 40, 41, 42] I9171 I9175) → (Md [21, 22, 23] A9171 A9175) → (IvX I9175 A9175) → (0 ≤ x9172.toInt) → (x9172.toInt ≤ 160) → (161 - x9172.toInt < (n9306 : Int)) → (0 < n9306) → GW κ 3 0 0 (wX q d I9175 A9175) 25 [(2, .int x9172), (0, .ref (q 49)), (1, .int z1)] [] := by
    intro n9306
    induction n9306 with
    | zero =>
      intro x9172 I9175 A9175 hI9175 hA9175 hV9175 h9303 h9304 m9307 m9307z
      exact absurd m9307z (Nat.lt_irrefl 0)
    | succ n9306 ih =>
      intro x9172 I9175 A9175 hI9175 hA9175 hV9175 h9303 h9304 m9307 m9307z
      refine g_iload_n hk dX9_findPair_25 rfl ?_
      refine g_sipush (v := 160) hk dX9_findPair_26 (by decide) ?_
      refine g_icmp_ge (tgt := 68) (a := x9172.toInt) (b := 160) hk dX9_findPair_29 (by decide) rfl rfl (fun c9308 => ?_) (fun c9308 => ?_)
      · skip
        exact g_vret hk hR ⟨I9175, A9175, (show Md [28, 30, 31, 32, 33, 34, 40, 41, 42] I I9175 from (Md.tr (Md.tr (Md.up (Md.up (Md.up Md.rf rfl) rfl) rfl) hI9171 rfl) hI9175 rfl)), (show Md [21, 22, 23, 30, 31] A A9175 from (Md.tr (Md.tr Md.rf hA9171 rfl) hA9175 rfl)), hV9175, rfl, rfl⟩ dX9_findPair_68
      · skip
        refine g_aload_n hk dX9_findPair_32 rfl ?_
        refine gX_r49_3 hk hin9 (List.mem_cons_of_mem _ (List.mem_append_left _ (List.mem_of_getElem? (i := 7) rfl))) dX9_findPair_33 ?_
        refine g_iload_n hk dX9_findPair_36 rfl ?_
        refine lX_31 (v := (A9171 31 x9172.toNatClampNeg)) hk (vp_in_iff.mpr ⟨by omega, by omega⟩) (congrFun (hA9175 31 rfl) _) dX9_findPair_37 ?_
        have b9309l := Int32.le_toInt (A9171 31 x9172.toNatClampNeg)
        have b9309h := Int32.toInt_lt (A9171 31 x9172.toNatClampNeg)
        refine g_if_eq (tgt := 62) (a := (A9171 31 x9172.toNatClampNeg).toInt) hk dX9_findPair_38 (by decide) rfl (fun c9310 => ?_) (fun c9310 => ?_)
        · skip
          obtain ⟨y9311, ey9311⟩ : ∃ y : Int32, y = x9172 + Int32.ofInt 1 := ⟨_, rfl⟩
          have hy9311 : y9311.toInt = x9172.toInt + 1 := i32_add ey9311 rfl (by decide) (by omega) (by omega)
          refine g_iinc (v := y9311) (lv' := [(2, .int y9311), (0, .ref (q 49)), (1, .int z1)]) hk 0 dX9_findPair_62 rfl ey9311.symm (by decide) rfl ?_
          refine g_goto (tgt := 25) hk dX9_findPair_65 (by decide) ?_
          exact g_lv (List.forall_mem_cons.mpr ⟨List.mem_of_getElem? (i := 0) rfl, (List.forall_mem_cons.mpr ⟨List.mem_of_getElem? (i := 1) rfl, (List.forall_mem_cons.mpr ⟨List.mem_of_getElem? (i := 2) rfl, (fun _ h => absurd h List.not_mem_nil)⟩)⟩)⟩) (ih y9311 I9175 A9175 (show Md [33, 34, 40, 41, 42] I9171 I9175 from Md.tr hI9175 (show Md [33, 34, 40, 41, 42] I9175 I9175 from Md.rf) rfl) (show Md [21, 22, 23] A9171 A9175 from Md.tr hA9175 (show Md [21, 22, 23] A9175 A9175 from Md.rf) rfl) hV9175 (by omega) (by omega) (by omega) (by omega))
        · skip
          refine g_aload_n hk dX9_findPair_41 rfl ?_
          refine gX_r49_1 hk hin9 (List.mem_cons_of_mem _ (List.mem_append_left _ (List.mem_of_getElem? (i := 8) rfl))) dX9_findPair_42 ?_
          refine g_aload_n hk dX9_findPair_45 rfl ?_
          refine gX_r49_2 hk hin9 (List.mem_cons_of_mem _ (List.mem_append_left _ (List.mem_of_getElem? (i := 9) rfl))) dX9_findPair_46 ?_
          refine g_iload_n hk dX9_findPair_49 rfl ?_
          refine g_bipush (v := 16) hk dX9_findPair_50 (by decide) ?_
          refine g_imul hk dX9_findPair_52 ?_
          refine g_topi (fun y9312 ey9312 => ?_)
          have hy9312 : y9312.toInt = x9172.toInt * 16 := i32_mul ey9312 rfl rfl (by omega) (by omega)
          refine g_callV (n := 2) hk (k297_X2_takeLeft l D zt q d I9175 A9175 y9312 hV9175) (SP.same _) (fun _ h => h) (gi_V (List.mem_cons_of_mem _ (List.mem_append_left _ (List.mem_of_getElem? (i := 10) rfl))) (List.mem_cons_of_mem _ (List.mem_append_left _ (List.mem_of_getElem? (i := 11) rfl))) (List.mem_cons_of_mem _ (List.mem_append_left _ (List.mem_of_getElem? (i := 12) rfl))) (List.mem_cons_of_mem _ (List.mem_append_left _ (List.mem_of_getElem? (i := 13) rfl))) (gi_sub (fun w h => (List.mem_cons_of_mem _ (List.mem_append_right _ (List.mem_append_right _ (List.mem_append_right _ (List.mem_append_left _ h)))))) zg_k297_X2_takeLeft)) rfl rfl rfl (by decide +kernel) ⟨Nat.le_of_ble_eq_true rfl, Nat.le_of_ble_eq_true rfl⟩ 38 rfl rfl rfl rfl (Nat.le_of_ble_eq_true rfl) ⟨Nat.le_of_ble_eq_true rfl, Nat.le_of_ble_eq_true rfl⟩ dX9_findPair_53 (fun v ty' w' hp hk' => ?_)
          obtain ⟨I9314, A9314, hI9314, hA9314, hV9314, rfl, rfl⟩ := hp
          show GW κ 3 0 0 (wX q d I9314 A9314) 56 [(2, .int x9172), (0, .ref (q 49)), (1, .int z1)] []
          refine g_aload_n hk dX9_findPair_56 rfl ?_
          refine g_iload_n hk dX9_findPair_57 rfl ?_
          refine g_iload_n hk dX9_findPair_58 rfl ?_
          refine g_callV (n := 2) hk (k303_X9_seekPairOf l D zt q d I9314 A9314 x9172 z1 hV9314 (by omega) (by omega) (by omega) (by omega)) (SP.same _) (fun _ h => h) (gi_V (List.mem_cons_of_mem _ (List.mem_append_left _ (List.mem_of_getElem? (i := 14) rfl))) (List.mem_cons_of_mem _ (List.mem_append_left _ (List.mem_of_getElem? (i := 15) rfl))) (List.mem_cons_of_mem _ (List.mem_append_left _ (List.mem_of_getElem? (i := 16) rfl))) (List.mem_cons_of_mem _ (List.mem_append_left _ (List.mem_of_getElem? (i := 6) rfl))) (gi_sub (fun w h => (List.mem_cons_of_mem _ (List.mem_append_right _ (List.mem_append_right _ (List.mem_append_right _ (List.mem_append_right _ (List.mem_append_left _ h))))))) zg_k303_X9_seekPairOf)) rfl rfl rfl (by decide +kernel) ⟨Nat.le_of_ble_eq_true rfl, Nat.le_of_ble_eq_true rfl⟩ 49 rfl rfl rfl rfl (Nat.le_of_ble_eq_true rfl) ⟨Nat.le_of_ble_eq_true rfl, Nat.le_of_ble_eq_true rfl⟩ dX9_findPair_59 (fun v ty' w' hp hk' => ?_)
          obtain ⟨I9316, A9316, hI9316, hA9316, hV9316, rfl, rfl⟩ := hp
          show GW κ 3 0 0 (wX q d I9316 A9316) 62 [(2, .int x9172), (0, .ref (q 49)), (1, .int z1)] []
          obtain ⟨y9317, ey9317⟩ : ∃ y : Int32, y = x9172 + Int32.ofInt 1 := ⟨_, rfl⟩
          have hy9317 : y9317.toInt = x9172.toInt + 1 := i32_add ey9317 rfl (by decide) (by omega) (by omega)
          refine g_iinc (v := y9317) (lv' := [(2, .int y9317), (0, .ref (q 49)), (1, .int z1)]) hk 0 dX9_findPair_62 rfl ey9317.symm (by decide) rfl ?_
          refine g_goto (tgt := 25) hk dX9_findPair_65 (by decide) ?_
          exact g_lv (List.forall_mem_cons.mpr ⟨List.mem_of_getElem? (i := 0) rfl, (List.forall_mem_cons.mpr ⟨List.mem_of_getElem? (i := 1) rfl, (List.forall_mem_cons.mpr ⟨List.mem_of_getElem? (i := 2) rfl, (fun _ h => absurd h List.not_mem_nil)⟩)⟩)⟩) (ih y9317 I9316 A9316 (show Md [33, 34, 40, 41, 42] I9171 I9316 from Md.tr hI9175 (show Md [33, 34, 40, 41, 42] I9175 I9316 from (Md.tr (Md.tr Md.rf hI9314 rfl) hI9316 rfl)) rfl) (show Md [21, 22, 23] A9171 A9316 from Md.tr hA9175 (show Md [21, 22, 23] A9175 A9316 from (Md.tr (Md.tr Md.rf hA9314 rfl) hA9316 rfl)) rfl) hV9316 (by omega) (by omega) (by omega) (by omega))
  have k9319 : (0 : Int32).toInt = 0 := rfl
  obtain ⟨n9318, n9318a, n9318b⟩ : ∃ n : Nat, 161 - 0 < (n : Int) ∧ 0 < n := ⟨((161 - 0 : Int)).toNat + 1, by omega, by omega⟩
  exact lp9305 n9318 0 I9171 A9171 Md.rf Md.rf hV9171 (by omega) (by omega) n9318a n9318b
def wo_k301_X11_pair : List Cond := [Cond.methodLink RX11 196 yX11_isStretch, Cond.static yX11_isStretch, Cond.initialized RX11, Cond.fieldLink RX11 81 "WarpDesk" "stretches" "LWarpDesk$Stretches;", Cond.methodLink RX11 332 yX9_findPair, Cond.instanceMethod yX9_findPair, Cond.selects RX9 yX9_findPair yX9_findPair, Cond.initialized RX9, Cond.fieldLink RX11 341 "WarpDesk$Stretches" "pairGreater" "I", Cond.fieldLink RX11 338 "WarpDesk$Stretches" "pairLesser" "I", Cond.fieldLink RX11 335 "WarpDesk$Stretches" "pairDistance" "I"]
def wz_k301_X11_pair : List Cond := .code yX11_pair cX11_pair 3 (some .int) :: (wo_k301_X11_pair ++ (wsX90 ++ (wsX110 ++ (wz_k212_X11_isStretch ++ (wz_k302_X9_findPair ++ ([] : List Cond))))))
theorem zg_k301_X11_pair : ∀ w ∈ wz_k301_X11_pair, goodWord w = true := zg_cons rfl (zg_app (by decide +kernel) (zg_app zgU_wsX90 (zg_app zgU_wsX110 (zg_app zg_k212_X11_isStretch (zg_app zg_k302_X9_findPair zg_nil)))))
theorem zi_k301_X11_pair : ∀ w ∈ wz_k301_X11_pair, w ∈ lw_tbl := zi_cons zw_1288 (zi_app (zi_cons zw_926 (zi_cons zw_927 (zi_cons zw_103 (zi_cons zw_496 (zi_cons zw_1289 (zi_cons zw_1290 (zi_cons zw_1291 (zi_cons zw_114 (zi_cons zw_457 (zi_cons zw_455 (zi_cons zw_459 zi_nil))))))))))) (zi_app inX9 (zi_app inX11 (zi_app zi_k212_X11_isStretch (zi_app zi_k302_X9_findPair zi_nil)))))
set_option maxHeartbeats 4000000 in
set_option maxRecDepth 100000 in
theorem k301_X11_pair (l : Launch) (D : va_G) (zt : Nat × Nat × Nat × (Nat → Nat) × (Nat → Nat)) (q : Nat → Nat) (d : Nat → ClassId) (I : Nat → Int32) (A : Nat → Nat → Int32) (z1 : Int32) (z2 : Int32) (hIv : IvX I A) : GM l D zt (tyX d) yX11_pair wz_k301_X11_pair ({ frames := 6, cells := 0, slots := 0, locals := 138 } : Room) [.ref (q 0), .int z1, .int z2] (wX q d I A) (fun v _ w' => ∃ (I' : Nat → Int32) (A' : Nat → Nat → Int32), Md [28, 30, 31, 32, 33, 34, 40, 41, 42] I I' ∧ Md [21, 22, 23, 30, 31] A A' ∧ IvX I' A' ∧ ∃ y0 : Int32, v = some (.int y0) ∧ w' = wX q d I' A') 0 0 := by
  refine GM.of (cc := cX11_pair) (maxL := 3) (ret := (some .int)) (own := RX11) (lv := [(0, .ref (q 0)), (1, .int z1), (2, .int z2)]) (by decide) rfl rfl (Nat.le_of_ble_eq_true rfl) rfl (fun κ sz hk hR hN => ?_)
  have hin9 : ∀ w ∈ u_ws RX9 TX9 11, w ∈ wz_k301_X11_pair := fun w h => (List.mem_cons_of_mem _ (List.mem_append_right _ (List.mem_append_left _ h)))
  have hin11 : ∀ w ∈ u_ws RX11 TX11 10, w ∈ wz_k301_X11_pair := fun w h => (List.mem_cons_of_mem _ (List.mem_append_right _ (List.mem_append_right _ (List.mem_append_left _ h))))
  refine g_iload_n hk dX11_pair_0 rfl ?_
  refine g_callS (n := 1) hk (k212_X11_isStretch l D zt q d I A z1 hIv) (SP.same _) (fun _ h => h) (gi_S (List.mem_cons_of_mem _ (List.mem_append_left _ (List.mem_of_getElem? (i := 0) rfl))) (List.mem_cons_of_mem _ (List.mem_append_left _ (List.mem_of_getElem? (i := 1) rfl))) (List.mem_cons_of_mem _ (List.mem_append_left _ (List.mem_of_getElem? (i := 2) rfl))) (gi_sub (fun w h => (List.mem_cons_of_mem _ (List.mem_append_right _ (List.mem_append_right _ (List.mem_append_right _ (List.mem_append_left _ h)))))) zg_k212_X11_isStretch)) rfl rfl rfl (by decide +kernel) ⟨Nat.le_of_ble_eq_true rfl, Nat.le_of_ble_eq_true rfl⟩ rfl rfl (Nat.le_of_ble_eq_true rfl) ⟨Nat.le_of_ble_eq_true rfl, Nat.le_of_ble_eq_true rfl⟩ dX11_pair_1 (fun v ty' w' hp hk' => ?_)
  rcases hp with ⟨rfl, rfl⟩ | ⟨c9162, c9163, c9164, c9165, rfl, rfl⟩
  · skip
    show GW κ 3 0 0 (wX q d I A) 4 [(0, .ref (q 0)), (1, .int z1), (2, .int z2)] [.int 0]
    refine g_if_eq (tgt := 16) (a := 0) hk dX11_pair_4 (by decide) rfl (fun _ => ?_) (fun z9 => absurd (show (0 : Int) = (0 : Int) from by decide) z9)
    refine g_iconst (v := (-1)) hk dX11_pair_16 (by decide) ?_
    exact g_iret hk hR rfl ⟨I, A, (show Md [28, 30, 31, 32, 33, 34, 40, 41, 42] I I from Md.rf), (show Md [21, 22, 23, 30, 31] A A from Md.rf), hIv, (-1), rfl, rfl⟩ dX11_pair_17
  · skip
    show GW κ 3 0 0 (wX q d I A) 4 [(0, .ref (q 0)), (1, .int z1), (2, .int z2)] [.int 1]
    refine g_if_eq (tgt := 16) (a := 1) hk dX11_pair_4 (by decide) rfl (fun z9 => absurd z9 (show ¬ ((1 : Int) = (0 : Int)) from by decide)) (fun _ => ?_)
    refine g_iload_n hk dX11_pair_7 rfl ?_
    have b9167l := Int32.le_toInt z2
    have b9167h := Int32.toInt_lt z2
    refine g_if_lt (tgt := 16) (a := z2.toInt) hk dX11_pair_8 (by decide) rfl (fun c9168 => ?_) (fun c9168 => ?_)
    · skip
      refine g_iconst (v := (-1)) hk dX11_pair_16 (by decide) ?_
      exact g_iret hk hR rfl ⟨I, A, (show Md [28, 30, 31, 32, 33, 34, 40, 41, 42] I I from Md.rf), (show Md [21, 22, 23, 30, 31] A A from Md.rf), hIv, (-1), rfl, rfl⟩ dX11_pair_17
    · skip
      refine g_iload_n hk dX11_pair_11 rfl ?_
      refine g_iconst (v := 2) hk dX11_pair_12 (by decide) ?_
      refine g_icmp_le (tgt := 18) (a := z2.toInt) (b := 2) hk dX11_pair_13 (by decide) rfl rfl (fun c9169 => ?_) (fun c9169 => ?_)
      · skip
        refine g_aload_n hk dX11_pair_18 rfl ?_
        refine gX_r0_9 hk hin11 (List.mem_cons_of_mem _ (List.mem_append_left _ (List.mem_of_getElem? (i := 3) rfl))) dX11_pair_19 ?_
        refine g_iload_n hk dX11_pair_22 rfl ?_
        refine g_callV (n := 1) hk (k302_X9_findPair l D zt q d I A z1 hIv (by omega) (by omega)) (SP.same _) (fun _ h => h) (gi_V (List.mem_cons_of_mem _ (List.mem_append_left _ (List.mem_of_getElem? (i := 4) rfl))) (List.mem_cons_of_mem _ (List.mem_append_left _ (List.mem_of_getElem? (i := 5) rfl))) (List.mem_cons_of_mem _ (List.mem_append_left _ (List.mem_of_getElem? (i := 6) rfl))) (List.mem_cons_of_mem _ (List.mem_append_left _ (List.mem_of_getElem? (i := 7) rfl))) (gi_sub (fun w h => (List.mem_cons_of_mem _ (List.mem_append_right _ (List.mem_append_right _ (List.mem_append_right _ (List.mem_append_right _ (List.mem_append_left _ h))))))) zg_k302_X9_findPair)) rfl rfl rfl (by decide +kernel) ⟨Nat.le_of_ble_eq_true rfl, Nat.le_of_ble_eq_true rfl⟩ 49 rfl rfl rfl rfl (Nat.le_of_ble_eq_true rfl) ⟨Nat.le_of_ble_eq_true rfl, Nat.le_of_ble_eq_true rfl⟩ dX11_pair_23 (fun v ty' w' hp hk' => ?_)
        obtain ⟨I9321, A9321, hI9321, hA9321, hV9321, rfl, rfl⟩ := hp
        show GW κ 3 0 0 (wX q d I9321 A9321) 26 [(0, .ref (q 0)), (1, .int z1), (2, .int z2)] []
        refine g_iload_n hk dX11_pair_26 rfl ?_
        refine g_iconst (v := 2) hk dX11_pair_27 (by decide) ?_
        refine g_icmp_ne (tgt := 39) (a := z2.toInt) (b := 2) hk dX11_pair_28 (by decide) rfl rfl (fun c9322 => ?_) (fun c9322 => ?_)
        · skip
          refine g_iload_n hk dX11_pair_39 rfl ?_
          refine g_if_ne (tgt := 53) (a := z2.toInt) hk dX11_pair_40 (by decide) rfl (fun c9323 => ?_) (fun c9323 => ?_)
          · skip
            refine g_aload_n hk dX11_pair_53 rfl ?_
            refine gX_r0_9 hk hin11 (List.mem_cons_of_mem _ (List.mem_append_left _ (List.mem_of_getElem? (i := 3) rfl))) dX11_pair_54 ?_
            refine gX_i41 (v := (I9321 41)) hk hin9 (List.mem_cons_of_mem _ (List.mem_append_left _ (List.mem_of_getElem? (i := 8) rfl))) dX11_pair_57 rfl ?_
            have b9324l := Int32.le_toInt (I9321 41)
            have b9324h := Int32.toInt_lt (I9321 41)
            exact g_iret hk hR rfl ⟨I9321, A9321, (show Md [28, 30, 31, 32, 33, 34, 40, 41, 42] I I9321 from (Md.tr Md.rf hI9321 rfl)), (show Md [21, 22, 23, 30, 31] A A9321 from (Md.tr Md.rf hA9321 rfl)), hV9321, (I9321 41), rfl, rfl⟩ dX11_pair_60
          · skip
            refine g_aload_n hk dX11_pair_43 rfl ?_
            refine gX_r0_9 hk hin11 (List.mem_cons_of_mem _ (List.mem_append_left _ (List.mem_of_getElem? (i := 3) rfl))) dX11_pair_44 ?_
            refine gX_i40 (v := (I9321 40)) hk hin9 (List.mem_cons_of_mem _ (List.mem_append_left _ (List.mem_of_getElem? (i := 9) rfl))) dX11_pair_47 rfl ?_
            refine g_goto (tgt := 60) hk dX11_pair_50 (by decide) ?_
            have b9325l := Int32.le_toInt (I9321 40)
            have b9325h := Int32.toInt_lt (I9321 40)
            exact g_iret hk hR rfl ⟨I9321, A9321, (show Md [28, 30, 31, 32, 33, 34, 40, 41, 42] I I9321 from (Md.tr Md.rf hI9321 rfl)), (show Md [21, 22, 23, 30, 31] A A9321 from (Md.tr Md.rf hA9321 rfl)), hV9321, (I9321 40), rfl, rfl⟩ dX11_pair_60
        · skip
          refine g_aload_n hk dX11_pair_31 rfl ?_
          refine gX_r0_9 hk hin11 (List.mem_cons_of_mem _ (List.mem_append_left _ (List.mem_of_getElem? (i := 3) rfl))) dX11_pair_32 ?_
          refine gX_i42 (v := (I9321 42)) hk hin9 (List.mem_cons_of_mem _ (List.mem_append_left _ (List.mem_of_getElem? (i := 10) rfl))) dX11_pair_35 rfl ?_
          have b9326l := Int32.le_toInt (I9321 42)
          have b9326h := Int32.toInt_lt (I9321 42)
          exact g_iret hk hR rfl ⟨I9321, A9321, (show Md [28, 30, 31, 32, 33, 34, 40, 41, 42] I I9321 from (Md.tr Md.rf hI9321 rfl)), (show Md [21, 22, 23, 30, 31] A A9321 from (Md.tr Md.rf hA9321 rfl)), hV9321, (I9321 42), rfl, rfl⟩ dX11_pair_38
      · skip
        refine g_iconst (v := (-1)) hk dX11_pair_16 (by decide) ?_
        exact g_iret hk hR rfl ⟨I, A, (show Md [28, 30, 31, 32, 33, 34, 40, 41, 42] I I from Md.rf), (show Md [21, 22, 23, 30, 31] A A from Md.rf), hIv, (-1), rfl, rfl⟩ dX11_pair_17
def wo_k305_X9_findOdd : List Cond := [Cond.fieldLink RX9 98 "WarpDesk$Stretches" "oddWindow" "I", Cond.fieldLink RX9 101 "WarpDesk$Stretches" "oddDistance" "I", Cond.methodLink RX9 50 yX9_bringAll, Cond.instanceMethod yX9_bringAll, Cond.selects RX9 yX9_bringAll yX9_bringAll, Cond.initialized RX9, Cond.fieldLink RX9 15 "WarpDesk$Stretches" "isThere" "[Z", Cond.methodLink RX9 54 yX9_findNearest, Cond.instanceMethod yX9_findNearest, Cond.selects RX9 yX9_findNearest yX9_findNearest, Cond.fieldLink RX9 58 "WarpDesk$Stretches" "nearest" "I", Cond.fieldLink RX9 62 "WarpDesk$Stretches" "nearestDistance" "I"]
def wz_k305_X9_findOdd : List Cond := .code yX9_findOdd cX9_findOdd 3 none :: (wo_k305_X9_findOdd ++ (wsX90 ++ (wz_k293_X9_bringAll ++ (wz_k296_X9_findNearest ++ ([] : List Cond)))))
theorem zg_k305_X9_findOdd : ∀ w ∈ wz_k305_X9_findOdd, goodWord w = true := zg_cons rfl (zg_app (by decide +kernel) (zg_app zgU_wsX90 (zg_app zg_k293_X9_bringAll (zg_app zg_k296_X9_findNearest zg_nil))))
theorem zi_k305_X9_findOdd : ∀ w ∈ wz_k305_X9_findOdd, w ∈ lw_tbl := zi_cons zw_1304 (zi_app (zi_cons zw_460 (zi_cons zw_462 (zi_cons zw_1255 (zi_cons zw_1257 (zi_cons zw_39 (zi_cons zw_114 (zi_cons zw_449 (zi_cons zw_1269 (zi_cons zw_1271 (zi_cons zw_41 (zi_cons zw_450 (zi_cons zw_452 zi_nil)))))))))))) (zi_app inX9 (zi_app zi_k293_X9_bringAll (zi_app zi_k296_X9_findNearest zi_nil))))
set_option maxHeartbeats 4000000 in
set_option maxRecDepth 100000 in
theorem k305_X9_findOdd (l : Launch) (D : va_G) (zt : Nat × Nat × Nat × (Nat → Nat) × (Nat → Nat)) (q : Nat → Nat) (d : Nat → ClassId) (I : Nat → Int32) (A : Nat → Nat → Int32) (z1 : Int32) (hIv : IvX I A) : GM l D zt (tyX d) yX9_findOdd wz_k305_X9_findOdd ({ frames := 5, cells := 0, slots := 0, locals := 118 } : Room) [.ref (q 49), .int z1] (wX q d I A) (fun v _ w' => ∃ (I' : Nat → Int32) (A' : Nat → Nat → Int32), Md [28, 30, 31, 32, 33, 34, 38, 39, 43, 44] I I' ∧ Md [21, 22, 23, 30, 31] A A' ∧ IvX I' A' ∧ v = none ∧ w' = wX q d I' A') 0 0 := by
  refine GM.of (cc := cX9_findOdd) (maxL := 3) (ret := none) (own := RX9) (lv := [(0, .ref (q 49)), (1, .int z1)]) (by decide) rfl rfl (Nat.le_of_ble_eq_true rfl) rfl (fun κ sz hk hR hN => ?_)
  have hin9 : ∀ w ∈ u_ws RX9 TX9 11, w ∈ wz_k305_X9_findOdd := fun w h => (List.mem_cons_of_mem _ (List.mem_append_right _ (List.mem_append_left _ h)))
  refine g_aload_n hk dX9_findOdd_0 rfl ?_
  refine g_bipush (v := (-2)) hk dX9_findOdd_1 (by decide) ?_
  refine pX_i43 hk hin9 (List.mem_cons_of_mem _ (List.mem_append_left _ (List.mem_of_getElem? (i := 0) rfl))) dX9_findOdd_3 ?_
  refine g_aload_n hk dX9_findOdd_6 rfl ?_
  refine g_bipush (v := (-2)) hk dX9_findOdd_7 (by decide) ?_
  refine pX_i44 hk hin9 (List.mem_cons_of_mem _ (List.mem_append_left _ (List.mem_of_getElem? (i := 1) rfl))) dX9_findOdd_9 ?_
  refine g_aload_n hk dX9_findOdd_12 rfl ?_
  refine g_iload_n hk dX9_findOdd_13 rfl ?_
  refine g_callV (n := 1) hk (k293_X9_bringAll l D zt q d (upd (upd I 43 (-2)) 44 (-2)) A z1 ⟨(IvX_f0 (I := I) (A := A) hIv), (IvX_f18 (I := I) (A := A) hIv), (IvX_f30 (I := I) (A := A) hIv), (IvX_f31 (I := I) (A := A) hIv), (IvX_a4 (I := I) (A := A) hIv), (IvX_a9 (I := I) (A := A) hIv), trivial⟩) (SP.same _) (fun _ h => h) (gi_V (List.mem_cons_of_mem _ (List.mem_append_left _ (List.mem_of_getElem? (i := 2) rfl))) (List.mem_cons_of_mem _ (List.mem_append_left _ (List.mem_of_getElem? (i := 3) rfl))) (List.mem_cons_of_mem _ (List.mem_append_left _ (List.mem_of_getElem? (i := 4) rfl))) (List.mem_cons_of_mem _ (List.mem_append_left _ (List.mem_of_getElem? (i := 5) rfl))) (gi_sub (fun w h => (List.mem_cons_of_mem _ (List.mem_append_right _ (List.mem_append_right _ (List.mem_append_left _ h))))) zg_k293_X9_bringAll)) rfl rfl rfl (by decide +kernel) ⟨Nat.le_of_ble_eq_true rfl, Nat.le_of_ble_eq_true rfl⟩ 49 rfl rfl rfl rfl (Nat.le_of_ble_eq_true rfl) ⟨Nat.le_of_ble_eq_true rfl, Nat.le_of_ble_eq_true rfl⟩ dX9_findOdd_14 (fun v ty' w' hp hk' => ?_)
  obtain ⟨I9337, A9337, hI9337, hA9337, hV9337, rfl, rfl⟩ := hp
  show GW κ 3 0 0 (wX q d I9337 A9337) 17 [(0, .ref (q 49)), (1, .int z1)] []
  refine g_iconst (v := 0) hk dX9_findOdd_17 (by decide) ?_
  refine g_istore_n (lv' := [(2, .int 0), (0, .ref (q 49)), (1, .int z1)]) hk dX9_findOdd_18 (by decide) rfl ?_
  have lp9396 : ∀ (n9397 : Nat) (x9338 : Int32) (I9341 : Nat → Int32) (A9341 : Nat → Nat → Int32), (Md [33, 34, 38, 39, 43, 44] I9337 I9341) → (Md [21, 22, 23] A9337 A9341) → (IvX I9341 A9341) → (0 ≤ x9338.toInt) → (x9338.toInt ≤ 160) → (161 - x9338.toInt < (n9397 : Int)) → (0 < n9397) → GW κ 3 0 0 (wX q d I9341 A9341) 19 [(2, .int x9338), (0, .ref (q 49)), (1, .int z1)] [] := by
    intro n9397
    induction n9397 with
    | zero =>
      intro x9338 I9341 A9341 hI9341 hA9341 hV9341 h9394 h9395 m9398 m9398z
      exact absurd m9398z (Nat.lt_irrefl 0)
    | succ n9397 ih =>
      intro x9338 I9341 A9341 hI9341 hA9341 hV9341 h9394 h9395 m9398 m9398z
      refine g_iload_n hk dX9_findOdd_19 rfl ?_
      refine g_sipush (v := 160) hk dX9_findOdd_20 (by decide) ?_
      refine g_icmp_ge (tgt := 85) (a := x9338.toInt) (b := 160) hk dX9_findOdd_23 (by decide) rfl rfl (fun c9399 => ?_) (fun c9399 => ?_)
      · skip
        exact g_vret hk hR ⟨I9341, A9341, (show Md [28, 30, 31, 32, 33, 34, 38, 39, 43, 44] I I9341 from (Md.tr (Md.tr (Md.up (Md.up Md.rf rfl) rfl) hI9337 rfl) hI9341 rfl)), (show Md [21, 22, 23, 30, 31] A A9341 from (Md.tr (Md.tr Md.rf hA9337 rfl) hA9341 rfl)), hV9341, rfl, rfl⟩ dX9_findOdd_85
      · skip
        refine g_aload_n hk dX9_findOdd_26 rfl ?_
        refine gX_r49_3 hk hin9 (List.mem_cons_of_mem _ (List.mem_append_left _ (List.mem_of_getElem? (i := 6) rfl))) dX9_findOdd_27 ?_
        refine g_iload_n hk dX9_findOdd_30 rfl ?_
        refine lX_31 (v := (A9337 31 x9338.toNatClampNeg)) hk (vp_in_iff.mpr ⟨by omega, by omega⟩) (congrFun (hA9341 31 rfl) _) dX9_findOdd_31 ?_
        have b9400l := Int32.le_toInt (A9337 31 x9338.toNatClampNeg)
        have b9400h := Int32.toInt_lt (A9337 31 x9338.toNatClampNeg)
        refine g_if_ne (tgt := 38) (a := (A9337 31 x9338.toNatClampNeg).toInt) hk dX9_findOdd_32 (by decide) rfl (fun c9401 => ?_) (fun c9401 => ?_)
        · skip
          refine g_aload_n hk dX9_findOdd_38 rfl ?_
          refine g_iload_n hk dX9_findOdd_39 rfl ?_
          refine g_iload_n hk dX9_findOdd_40 rfl ?_
          refine g_aload_n hk dX9_findOdd_41 rfl ?_
          refine gX_i44 (v := (I9341 44)) hk hin9 (List.mem_cons_of_mem _ (List.mem_append_left _ (List.mem_of_getElem? (i := 1) rfl))) dX9_findOdd_42 rfl ?_
          refine g_callV (n := 3) hk (k296_X9_findNearest l D zt q d I9341 A9341 x9338 z1 (I9341 44) hV9341) (SP.same _) (fun _ h => h) (gi_V (List.mem_cons_of_mem _ (List.mem_append_left _ (List.mem_of_getElem? (i := 7) rfl))) (List.mem_cons_of_mem _ (List.mem_append_left _ (List.mem_of_getElem? (i := 8) rfl))) (List.mem_cons_of_mem _ (List.mem_append_left _ (List.mem_of_getElem? (i := 9) rfl))) (List.mem_cons_of_mem _ (List.mem_append_left _ (List.mem_of_getElem? (i := 5) rfl))) (gi_sub (fun w h => (List.mem_cons_of_mem _ (List.mem_append_right _ (List.mem_append_right _ (List.mem_append_right _ (List.mem_append_left _ h)))))) zg_k296_X9_findNearest)) rfl rfl rfl (by decide +kernel) ⟨Nat.le_of_ble_eq_true rfl, Nat.le_of_ble_eq_true rfl⟩ 49 rfl rfl rfl rfl (Nat.le_of_ble_eq_true rfl) ⟨Nat.le_of_ble_eq_true rfl, Nat.le_of_ble_eq_true rfl⟩ dX9_findOdd_45 (fun v ty' w' hp hk' => ?_)
          obtain ⟨I9403, A9403, hI9403, hA9403, hV9403, rfl, rfl⟩ := hp
          show GW κ 3 0 0 (wX q d I9403 A9403) 48 [(2, .int x9338), (0, .ref (q 49)), (1, .int z1)] []
          refine g_aload_n hk dX9_findOdd_48 rfl ?_
          refine gX_i38 (v := (I9403 38)) hk hin9 (List.mem_cons_of_mem _ (List.mem_append_left _ (List.mem_of_getElem? (i := 10) rfl))) dX9_findOdd_49 rfl ?_
          have b9404l := Int32.le_toInt (I9403 38)
          have b9404h := Int32.toInt_lt (I9403 38)
          refine g_if_lt (tgt := 79) (a := (I9403 38).toInt) hk dX9_findOdd_52 (by decide) rfl (fun c9405 => ?_) (fun c9405 => ?_)
          · skip
            obtain ⟨y9406, ey9406⟩ : ∃ y : Int32, y = x9338 + Int32.ofInt 1 := ⟨_, rfl⟩
            have hy9406 : y9406.toInt = x9338.toInt + 1 := i32_add ey9406 rfl (by decide) (by omega) (by omega)
            refine g_iinc (v := y9406) (lv' := [(2, .int y9406), (0, .ref (q 49)), (1, .int z1)]) hk 0 dX9_findOdd_79 rfl ey9406.symm (by decide) rfl ?_
            refine g_goto (tgt := 19) hk dX9_findOdd_82 (by decide) ?_
            exact g_lv (List.forall_mem_cons.mpr ⟨List.mem_of_getElem? (i := 0) rfl, (List.forall_mem_cons.mpr ⟨List.mem_of_getElem? (i := 1) rfl, (List.forall_mem_cons.mpr ⟨List.mem_of_getElem? (i := 2) rfl, (fun _ h => absurd h List.not_mem_nil)⟩)⟩)⟩) (ih y9406 I9403 A9403 (show Md [33, 34, 38, 39, 43, 44] I9337 I9403 from Md.tr hI9341 (show Md [33, 34, 38, 39, 43, 44] I9341 I9403 from (Md.tr Md.rf hI9403 rfl)) rfl) (show Md [21, 22, 23] A9337 A9403 from Md.tr hA9341 (show Md [21, 22, 23] A9341 A9403 from (Md.tr Md.rf hA9403 rfl)) rfl) hV9403 (by omega) (by omega) (by omega) (by omega))
          · skip
            refine g_aload_n hk dX9_findOdd_55 rfl ?_
            refine gX_i39 (v := (I9403 39)) hk hin9 (List.mem_cons_of_mem _ (List.mem_append_left _ (List.mem_of_getElem? (i := 11) rfl))) dX9_findOdd_56 rfl ?_
            refine g_aload_n hk dX9_findOdd_59 rfl ?_
            refine gX_i44 (v := (I9341 44)) hk hin9 (List.mem_cons_of_mem _ (List.mem_append_left _ (List.mem_of_getElem? (i := 1) rfl))) dX9_findOdd_60 (hI9403 44 rfl) ?_
            have b9407l := Int32.le_toInt (I9403 39)
            have b9407h := Int32.toInt_lt (I9403 39)
            have b9408l := Int32.le_toInt (I9341 44)
            have b9408h := Int32.toInt_lt (I9341 44)
            refine g_icmp_le (tgt := 79) (a := (I9403 39).toInt) (b := (I9341 44).toInt) hk dX9_findOdd_63 (by decide) rfl rfl (fun c9409 => ?_) (fun c9409 => ?_)
            · skip
              obtain ⟨y9410, ey9410⟩ : ∃ y : Int32, y = x9338 + Int32.ofInt 1 := ⟨_, rfl⟩
              have hy9410 : y9410.toInt = x9338.toInt + 1 := i32_add ey9410 rfl (by decide) (by omega) (by omega)
              refine g_iinc (v := y9410) (lv' := [(2, .int y9410), (0, .ref (q 49)), (1, .int z1)]) hk 0 dX9_findOdd_79 rfl ey9410.symm (by decide) rfl ?_
              refine g_goto (tgt := 19) hk dX9_findOdd_82 (by decide) ?_
              exact g_lv (List.forall_mem_cons.mpr ⟨List.mem_of_getElem? (i := 0) rfl, (List.forall_mem_cons.mpr ⟨List.mem_of_getElem? (i := 1) rfl, (List.forall_mem_cons.mpr ⟨List.mem_of_getElem? (i := 2) rfl, (fun _ h => absurd h List.not_mem_nil)⟩)⟩)⟩) (ih y9410 I9403 A9403 (show Md [33, 34, 38, 39, 43, 44] I9337 I9403 from Md.tr hI9341 (show Md [33, 34, 38, 39, 43, 44] I9341 I9403 from (Md.tr Md.rf hI9403 rfl)) rfl) (show Md [21, 22, 23] A9337 A9403 from Md.tr hA9341 (show Md [21, 22, 23] A9341 A9403 from (Md.tr Md.rf hA9403 rfl)) rfl) hV9403 (by omega) (by omega) (by omega) (by omega))
            · skip
              refine g_aload_n hk dX9_findOdd_66 rfl ?_
              refine g_iload_n hk dX9_findOdd_67 rfl ?_
              refine pX_i43 hk hin9 (List.mem_cons_of_mem _ (List.mem_append_left _ (List.mem_of_getElem? (i := 0) rfl))) dX9_findOdd_68 ?_
              refine g_aload_n hk dX9_findOdd_71 rfl ?_
              refine g_aload_n hk dX9_findOdd_72 rfl ?_
              refine gX_i39 (v := (I9403 39)) hk hin9 (List.mem_cons_of_mem _ (List.mem_append_left _ (List.mem_of_getElem? (i := 11) rfl))) dX9_findOdd_73 rfl ?_
              refine pX_i44 hk hin9 (List.mem_cons_of_mem _ (List.mem_append_left _ (List.mem_of_getElem? (i := 1) rfl))) dX9_findOdd_76 ?_
              obtain ⟨y9411, ey9411⟩ : ∃ y : Int32, y = x9338 + Int32.ofInt 1 := ⟨_, rfl⟩
              have hy9411 : y9411.toInt = x9338.toInt + 1 := i32_add ey9411 rfl (by decide) (by omega) (by omega)
              refine g_iinc (v := y9411) (lv' := [(2, .int y9411), (0, .ref (q 49)), (1, .int z1)]) hk 0 dX9_findOdd_79 rfl ey9411.symm (by decide) rfl ?_
              refine g_goto (tgt := 19) hk dX9_findOdd_82 (by decide) ?_
              exact g_lv (List.forall_mem_cons.mpr ⟨List.mem_of_getElem? (i := 0) rfl, (List.forall_mem_cons.mpr ⟨List.mem_of_getElem? (i := 1) rfl, (List.forall_mem_cons.mpr ⟨List.mem_of_getElem? (i := 2) rfl, (fun _ h => absurd h List.not_mem_nil)⟩)⟩)⟩) (ih y9411 (upd (upd I9403 43 x9338) 44 (I9403 39)) A9403 (show Md [33, 34, 38, 39, 43, 44] I9337 (upd (upd I9403 43 x9338) 44 (I9403 39)) from Md.tr hI9341 (show Md [33, 34, 38, 39, 43, 44] I9341 (upd (upd I9403 43 x9338) 44 (I9403 39)) from (Md.up (Md.up (Md.tr Md.rf hI9403 rfl) rfl) rfl)) rfl) (show Md [21, 22, 23] A9337 A9403 from Md.tr hA9341 (show Md [21, 22, 23] A9341 A9403 from (Md.tr Md.rf hA9403 rfl)) rfl) ⟨(IvX_f0 (I := I9403) (A := A9403) hV9403), (IvX_f18 (I := I9403) (A := A9403) hV9403), (IvX_f30 (I := I9403) (A := A9403) hV9403), (IvX_f31 (I := I9403) (A := A9403) hV9403), (IvX_a4 (I := I9403) (A := A9403) hV9403), (IvX_a9 (I := I9403) (A := A9403) hV9403), trivial⟩ (by omega) (by omega) (by omega) (by omega))
        · skip
          refine g_goto (tgt := 79) hk dX9_findOdd_35 (by decide) ?_
          obtain ⟨y9412, ey9412⟩ : ∃ y : Int32, y = x9338 + Int32.ofInt 1 := ⟨_, rfl⟩
          have hy9412 : y9412.toInt = x9338.toInt + 1 := i32_add ey9412 rfl (by decide) (by omega) (by omega)
          refine g_iinc (v := y9412) (lv' := [(2, .int y9412), (0, .ref (q 49)), (1, .int z1)]) hk 0 dX9_findOdd_79 rfl ey9412.symm (by decide) rfl ?_
          refine g_goto (tgt := 19) hk dX9_findOdd_82 (by decide) ?_
          exact g_lv (List.forall_mem_cons.mpr ⟨List.mem_of_getElem? (i := 0) rfl, (List.forall_mem_cons.mpr ⟨List.mem_of_getElem? (i := 1) rfl, (List.forall_mem_cons.mpr ⟨List.mem_of_getElem? (i := 2) rfl, (fun _ h => absurd h List.not_mem_nil)⟩)⟩)⟩) (ih y9412 I9341 A9341 (show Md [33, 34, 38, 39, 43, 44] I9337 I9341 from Md.tr hI9341 (show Md [33, 34, 38, 39, 43, 44] I9341 I9341 from Md.rf) rfl) (show Md [21, 22, 23] A9337 A9341 from Md.tr hA9341 (show Md [21, 22, 23] A9341 A9341 from Md.rf) rfl) hV9341 (by omega) (by omega) (by omega) (by omega))
  have k9414 : (0 : Int32).toInt = 0 := rfl
  obtain ⟨n9413, n9413a, n9413b⟩ : ∃ n : Nat, 161 - 0 < (n : Int) ∧ 0 < n := ⟨((161 - 0 : Int)).toNat + 1, by omega, by omega⟩
  exact lp9396 n9413 0 I9337 A9337 Md.rf Md.rf hV9337 (by omega) (by omega) n9413a n9413b
