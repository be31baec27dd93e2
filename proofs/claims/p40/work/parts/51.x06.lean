def wo_k283_X1_rankOf : List Cond := [Cond.methodLink RX1 142 yX1_scannedDistance, Cond.instanceMethod yX1_scannedDistance, Cond.selects RX1 yX1_scannedDistance yX1_scannedDistance, Cond.initialized RX1, Cond.fieldLink RX1 15 "WarpDesk$Finder" "distances" "[I"]
def wz_k283_X1_rankOf : List Cond := .code yX1_rankOf cX1_rankOf 6 (some .int) :: (wo_k283_X1_rankOf ++ (wsX10 ++ (wz_k284_X1_scannedDistance ++ ([] : List Cond))))
theorem zg_k283_X1_rankOf : ∀ w ∈ wz_k283_X1_rankOf, goodWord w = true := zg_cons rfl (zg_app (by decide +kernel) (zg_app zgU_wsX10 (zg_app zg_k284_X1_scannedDistance zg_nil)))
theorem zi_k283_X1_rankOf : ∀ w ∈ wz_k283_X1_rankOf, w ∈ lw_tbl := zi_cons zw_1212 (zi_app (zi_cons zw_1213 (zi_cons zw_1214 (zi_cons zw_1215 (zi_cons zw_113 (zi_cons zw_411 zi_nil))))) (zi_app inX1 (zi_app zi_k284_X1_scannedDistance zi_nil)))
set_option maxHeartbeats 4000000 in
set_option maxRecDepth 100000 in
theorem k283_X1_rankOf (l : Launch) (D : va_G) (zt : Nat × Nat × Nat × (Nat → Nat) × (Nat → Nat)) (q : Nat → Nat) (d : Nat → ClassId) (I : Nat → Int32) (A : Nat → Nat → Int32) (z1 : Int32) (hIv : IvX I A) : GM l D zt (tyX d) yX1_rankOf wz_k283_X1_rankOf ({ frames := 1, cells := 0, slots := 0, locals := 21 } : Room) [.ref (q 43), .int z1] (wX q d I A) (fun v _ w' => ∃ y0 : Int32, v = some (.int y0) ∧ w' = wX q d I A) 0 0 := by
  refine GM.of (cc := cX1_rankOf) (maxL := 6) (ret := (some .int)) (own := RX1) (lv := [(0, .ref (q 43)), (1, .int z1)]) (by decide) rfl rfl (Nat.le_of_ble_eq_true rfl) rfl (fun κ sz hk hR hN => ?_)
  have hin1 : ∀ w ∈ u_ws RX1 TX1 11, w ∈ wz_k283_X1_rankOf := fun w h => (List.mem_cons_of_mem _ (List.mem_append_right _ (List.mem_append_left _ h)))
  refine g_aload_n hk dX1_rankOf_0 rfl ?_
  refine g_iload_n hk dX1_rankOf_1 rfl ?_
  refine g_callV (n := 1) hk (k284_X1_scannedDistance l D zt q d I A z1 hIv) (SP.same _) (fun _ h => h) (gi_V (List.mem_cons_of_mem _ (List.mem_append_left _ (List.mem_of_getElem? (i := 0) rfl))) (List.mem_cons_of_mem _ (List.mem_append_left _ (List.mem_of_getElem? (i := 1) rfl))) (List.mem_cons_of_mem _ (List.mem_append_left _ (List.mem_of_getElem? (i := 2) rfl))) (List.mem_cons_of_mem _ (List.mem_append_left _ (List.mem_of_getElem? (i := 3) rfl))) (gi_sub (fun w h => (List.mem_cons_of_mem _ (List.mem_append_right _ (List.mem_append_right _ (List.mem_append_left _ h))))) zg_k284_X1_scannedDistance)) rfl rfl rfl (by decide +kernel) ⟨Nat.le_of_ble_eq_true rfl, Nat.le_of_ble_eq_true rfl⟩ 43 rfl rfl rfl rfl (Nat.le_of_ble_eq_true rfl) ⟨Nat.le_of_ble_eq_true rfl, Nat.le_of_ble_eq_true rfl⟩ dX1_rankOf_2 (fun v ty' w' hp hk' => ?_)
  obtain ⟨y8080, rfl, rfl⟩ := hp
  show GW κ 6 0 0 (wX q d I A) 5 [(0, .ref (q 43)), (1, .int z1)] [.int y8080]
  refine g_istore_n (lv' := [(2, .int y8080), (0, .ref (q 43)), (1, .int z1)]) hk dX1_rankOf_5 (by decide) rfl ?_
  refine g_iconst (v := 0) hk dX1_rankOf_6 (by decide) ?_
  refine g_istore_n (lv' := [(3, .int 0), (2, .int y8080), (0, .ref (q 43)), (1, .int z1)]) hk dX1_rankOf_7 (by decide) rfl ?_
  refine g_iconst (v := 0) hk dX1_rankOf_8 (by decide) ?_
  refine g_istore (lv' := [(4, .int 0), (3, .int 0), (2, .int y8080), (0, .ref (q 43)), (1, .int z1)]) hk dX1_rankOf_9 (by decide) rfl ?_
  have lp8163 : ∀ (n8164 : Nat) (x8081 : Int32) (x8082 : Int32), (0 ≤ x8081.toInt) → (x8081.toInt ≤ 160) → (161 - x8081.toInt < (n8164 : Int)) → (0 < n8164) → GW κ 6 0 0 (wX q d I A) 11 [(4, .int x8081), (3, .int x8082), (2, .int y8080), (0, .ref (q 43)), (1, .int z1)] [] := by
    intro n8164
    induction n8164 with
    | zero =>
      intro x8081 x8082 h8161 h8162 m8165 m8165z
      exact absurd m8165z (Nat.lt_irrefl 0)
    | succ n8164 ih8166 =>
      intro x8081 x8082 h8161 h8162 m8165 m8165z
      refine g_iload hk dX1_rankOf_11 rfl ?_
      refine g_sipush (v := 160) hk dX1_rankOf_13 (by decide) ?_
      refine g_icmp_ge (tgt := 60) (a := x8081.toInt) (b := 160) hk dX1_rankOf_16 (by decide) rfl rfl (fun c8167 => ?_) (fun c8167 => ?_)
      · skip
        refine g_iload_n hk dX1_rankOf_60 rfl ?_
        have b8168l := Int32.le_toInt x8082
        have b8168h := Int32.toInt_lt x8082
        exact g_iret hk hR rfl ⟨x8082, rfl, rfl⟩ dX1_rankOf_61
      · skip
        refine g_aload_n hk dX1_rankOf_19 rfl ?_
        refine gX_r43_6 hk hin1 (List.mem_cons_of_mem _ (List.mem_append_left _ (List.mem_of_getElem? (i := 4) rfl))) dX1_rankOf_20 ?_
        refine g_iload hk dX1_rankOf_23 rfl ?_
        refine lX_26 (v := (A 26 x8081.toNatClampNeg)) hk (vp_in_iff.mpr ⟨by omega, by omega⟩) rfl dX1_rankOf_25 ?_
        refine g_istore (lv' := [(5, .int (A 26 x8081.toNatClampNeg)), (4, .int x8081), (3, .int x8082), (2, .int y8080), (0, .ref (q 43)), (1, .int z1)]) hk dX1_rankOf_26 (by decide) rfl ?_
        refine g_iload hk dX1_rankOf_28 rfl ?_
        have b8169l := Int32.le_toInt (A 26 x8081.toNatClampNeg)
        have b8169h := Int32.toInt_lt (A 26 x8081.toNatClampNeg)
        refine g_if_lt (tgt := 54) (a := (A 26 x8081.toNatClampNeg).toInt) hk dX1_rankOf_30 (by decide) rfl (fun c8170 => ?_) (fun c8170 => ?_)
        · skip
          obtain ⟨y8171, ey8171⟩ : ∃ y : Int32, y = x8081 + Int32.ofInt 1 := ⟨_, rfl⟩
          have hy8171 : y8171.toInt = x8081.toInt + 1 := i32_add ey8171 rfl (by decide) (by omega) (by omega)
          refine g_iinc (v := y8171) (lv' := [(4, .int y8171), (5, .int (A 26 x8081.toNatClampNeg)), (3, .int x8082), (2, .int y8080), (0, .ref (q 43)), (1, .int z1)]) hk 1 dX1_rankOf_54 rfl ey8171.symm (by decide) rfl ?_
          refine g_goto (tgt := 11) hk dX1_rankOf_57 (by decide) ?_
          exact g_lv (List.forall_mem_cons.mpr ⟨List.mem_of_getElem? (i := 0) rfl, (List.forall_mem_cons.mpr ⟨List.mem_of_getElem? (i := 2) rfl, (List.forall_mem_cons.mpr ⟨List.mem_of_getElem? (i := 3) rfl, (List.forall_mem_cons.mpr ⟨List.mem_of_getElem? (i := 4) rfl, (List.forall_mem_cons.mpr ⟨List.mem_of_getElem? (i := 5) rfl, (fun _ h => absurd h List.not_mem_nil)⟩)⟩)⟩)⟩)⟩) (ih8166 y8171 x8082 (by omega) (by omega) (by omega) (by omega))
        · skip
          refine g_iload hk dX1_rankOf_33 rfl ?_
          refine g_iload_n hk dX1_rankOf_35 rfl ?_
          have b8172l := Int32.le_toInt y8080
          have b8172h := Int32.toInt_lt y8080
          refine g_icmp_lt (tgt := 51) (a := (A 26 x8081.toNatClampNeg).toInt) (b := y8080.toInt) hk dX1_rankOf_36 (by decide) rfl rfl (fun c8173 => ?_) (fun c8173 => ?_)
          · skip
            have b8174l := Int32.le_toInt x8082
            have b8174h := Int32.toInt_lt x8082
            obtain ⟨y8175, ey8175⟩ : ∃ y : Int32, y = x8082 + Int32.ofInt 1 := ⟨_, rfl⟩
            refine g_iinc (v := y8175) (lv' := [(3, .int y8175), (5, .int (A 26 x8081.toNatClampNeg)), (4, .int x8081), (2, .int y8080), (0, .ref (q 43)), (1, .int z1)]) hk 2 dX1_rankOf_51 rfl ey8175.symm (by decide) rfl ?_
            obtain ⟨y8176, ey8176⟩ : ∃ y : Int32, y = x8081 + Int32.ofInt 1 := ⟨_, rfl⟩
            have hy8176 : y8176.toInt = x8081.toInt + 1 := i32_add ey8176 rfl (by decide) (by omega) (by omega)
            refine g_iinc (v := y8176) (lv' := [(4, .int y8176), (3, .int y8175), (5, .int (A 26 x8081.toNatClampNeg)), (2, .int y8080), (0, .ref (q 43)), (1, .int z1)]) hk 2 dX1_rankOf_54 rfl ey8176.symm (by decide) rfl ?_
            refine g_goto (tgt := 11) hk dX1_rankOf_57 (by decide) ?_
            exact g_lv (List.forall_mem_cons.mpr ⟨List.mem_of_getElem? (i := 0) rfl, (List.forall_mem_cons.mpr ⟨List.mem_of_getElem? (i := 1) rfl, (List.forall_mem_cons.mpr ⟨List.mem_of_getElem? (i := 3) rfl, (List.forall_mem_cons.mpr ⟨List.mem_of_getElem? (i := 4) rfl, (List.forall_mem_cons.mpr ⟨List.mem_of_getElem? (i := 5) rfl, (fun _ h => absurd h List.not_mem_nil)⟩)⟩)⟩)⟩)⟩) (ih8166 y8176 y8175 (by omega) (by omega) (by omega) (by omega))
          · skip
            refine g_iload hk dX1_rankOf_39 rfl ?_
            refine g_iload_n hk dX1_rankOf_41 rfl ?_
            refine g_icmp_ne (tgt := 54) (a := (A 26 x8081.toNatClampNeg).toInt) (b := y8080.toInt) hk dX1_rankOf_42 (by decide) rfl rfl (fun c8177 => ?_) (fun c8177 => ?_)
            · skip
              obtain ⟨y8178, ey8178⟩ : ∃ y : Int32, y = x8081 + Int32.ofInt 1 := ⟨_, rfl⟩
              have hy8178 : y8178.toInt = x8081.toInt + 1 := i32_add ey8178 rfl (by decide) (by omega) (by omega)
              refine g_iinc (v := y8178) (lv' := [(4, .int y8178), (5, .int (A 26 x8081.toNatClampNeg)), (3, .int x8082), (2, .int y8080), (0, .ref (q 43)), (1, .int z1)]) hk 1 dX1_rankOf_54 rfl ey8178.symm (by decide) rfl ?_
              refine g_goto (tgt := 11) hk dX1_rankOf_57 (by decide) ?_
              exact g_lv (List.forall_mem_cons.mpr ⟨List.mem_of_getElem? (i := 0) rfl, (List.forall_mem_cons.mpr ⟨List.mem_of_getElem? (i := 2) rfl, (List.forall_mem_cons.mpr ⟨List.mem_of_getElem? (i := 3) rfl, (List.forall_mem_cons.mpr ⟨List.mem_of_getElem? (i := 4) rfl, (List.forall_mem_cons.mpr ⟨List.mem_of_getElem? (i := 5) rfl, (fun _ h => absurd h List.not_mem_nil)⟩)⟩)⟩)⟩)⟩) (ih8166 y8178 x8082 (by omega) (by omega) (by omega) (by omega))
            · skip
              refine g_iload hk dX1_rankOf_45 rfl ?_
              refine g_iload_n hk dX1_rankOf_47 rfl ?_
              have b8179l := Int32.le_toInt z1
              have b8179h := Int32.toInt_lt z1
              refine g_icmp_ge (tgt := 54) (a := x8081.toInt) (b := z1.toInt) hk dX1_rankOf_48 (by decide) rfl rfl (fun c8180 => ?_) (fun c8180 => ?_)
              · skip
                obtain ⟨y8181, ey8181⟩ : ∃ y : Int32, y = x8081 + Int32.ofInt 1 := ⟨_, rfl⟩
                have hy8181 : y8181.toInt = x8081.toInt + 1 := i32_add ey8181 rfl (by decide) (by omega) (by omega)
                refine g_iinc (v := y8181) (lv' := [(4, .int y8181), (5, .int (A 26 x8081.toNatClampNeg)), (3, .int x8082), (2, .int y8080), (0, .ref (q 43)), (1, .int z1)]) hk 1 dX1_rankOf_54 rfl ey8181.symm (by decide) rfl ?_
                refine g_goto (tgt := 11) hk dX1_rankOf_57 (by decide) ?_
                exact g_lv (List.forall_mem_cons.mpr ⟨List.mem_of_getElem? (i := 0) rfl, (List.forall_mem_cons.mpr ⟨List.mem_of_getElem? (i := 2) rfl, (List.forall_mem_cons.mpr ⟨List.mem_of_getElem? (i := 3) rfl, (List.forall_mem_cons.mpr ⟨List.mem_of_getElem? (i := 4) rfl, (List.forall_mem_cons.mpr ⟨List.mem_of_getElem? (i := 5) rfl, (fun _ h => absurd h List.not_mem_nil)⟩)⟩)⟩)⟩)⟩) (ih8166 y8181 x8082 (by omega) (by omega) (by omega) (by omega))
              · skip
                have b8182l := Int32.le_toInt x8082
                have b8182h := Int32.toInt_lt x8082
                obtain ⟨y8183, ey8183⟩ : ∃ y : Int32, y = x8082 + Int32.ofInt 1 := ⟨_, rfl⟩
                refine g_iinc (v := y8183) (lv' := [(3, .int y8183), (5, .int (A 26 x8081.toNatClampNeg)), (4, .int x8081), (2, .int y8080), (0, .ref (q 43)), (1, .int z1)]) hk 2 dX1_rankOf_51 rfl ey8183.symm (by decide) rfl ?_
                obtain ⟨y8184, ey8184⟩ : ∃ y : Int32, y = x8081 + Int32.ofInt 1 := ⟨_, rfl⟩
                have hy8184 : y8184.toInt = x8081.toInt + 1 := i32_add ey8184 rfl (by decide) (by omega) (by omega)
                refine g_iinc (v := y8184) (lv' := [(4, .int y8184), (3, .int y8183), (5, .int (A 26 x8081.toNatClampNeg)), (2, .int y8080), (0, .ref (q 43)), (1, .int z1)]) hk 2 dX1_rankOf_54 rfl ey8184.symm (by decide) rfl ?_
                refine g_goto (tgt := 11) hk dX1_rankOf_57 (by decide) ?_
                exact g_lv (List.forall_mem_cons.mpr ⟨List.mem_of_getElem? (i := 0) rfl, (List.forall_mem_cons.mpr ⟨List.mem_of_getElem? (i := 1) rfl, (List.forall_mem_cons.mpr ⟨List.mem_of_getElem? (i := 3) rfl, (List.forall_mem_cons.mpr ⟨List.mem_of_getElem? (i := 4) rfl, (List.forall_mem_cons.mpr ⟨List.mem_of_getElem? (i := 5) rfl, (fun _ h => absurd h List.not_mem_nil)⟩)⟩)⟩)⟩)⟩) (ih8166 y8184 y8183 (by omega) (by omega) (by omega) (by omega))
  have k8186 : (0 : Int32).toInt = 0 := rfl
  obtain ⟨n8185, n8185a, n8185b⟩ : ∃ n : Nat, 161 - 0 < (n : Int) ∧ 0 < n := ⟨((161 - 0 : Int)).toNat + 1, by omega, by omega⟩
  exact lp8163 n8185 0 0 (by omega) (by omega) n8185a n8185b
def wo_k282_X11_rank : List Cond := [Cond.fieldLink RX11 65 "WarpDesk" "bench" "LWarpDesk$Bench;", Cond.methodLink RX11 299 yX0_hasBoth, Cond.instanceMethod yX0_hasBoth, Cond.selects RX0 yX0_hasBoth yX0_hasBoth, Cond.initialized RX0, Cond.fieldLink RX11 74 "WarpDesk" "finder" "LWarpDesk$Finder;", Cond.methodLink RX11 305 yX1_scan, Cond.instanceMethod yX1_scan, Cond.selects RX1 yX1_scan yX1_scan, Cond.initialized RX1, Cond.methodLink RX11 308 yX1_rankOf, Cond.instanceMethod yX1_rankOf, Cond.selects RX1 yX1_rankOf yX1_rankOf]
def wz_k282_X11_rank : List Cond := .code yX11_rank cX11_rank 3 (some .int) :: (wo_k282_X11_rank ++ (wsX110 ++ (wz_k223_X0_hasBoth ++ (wz_k270_X1_scan ++ (wz_k283_X1_rankOf ++ ([] : List Cond))))))
theorem zg_k282_X11_rank : ∀ w ∈ wz_k282_X11_rank, goodWord w = true := zg_cons rfl (zg_app (by decide +kernel) (zg_app zgU_wsX110 (zg_app zg_k223_X0_hasBoth (zg_app zg_k270_X1_scan (zg_app zg_k283_X1_rankOf zg_nil)))))
theorem zi_k282_X11_rank : ∀ w ∈ wz_k282_X11_rank, w ∈ lw_tbl := zi_cons zw_1207 (zi_app (zi_cons zw_494 (zi_cons zw_1198 (zi_cons zw_974 (zi_cons zw_975 (zi_cons zw_111 (zi_cons zw_495 (zi_cons zw_1208 (zi_cons zw_1152 (zi_cons zw_1153 (zi_cons zw_113 (zi_cons zw_1209 (zi_cons zw_1210 (zi_cons zw_1211 zi_nil))))))))))))) (zi_app inX11 (zi_app zi_k223_X0_hasBoth (zi_app zi_k270_X1_scan (zi_app zi_k283_X1_rankOf zi_nil)))))
set_option maxHeartbeats 4000000 in
set_option maxRecDepth 100000 in
theorem k282_X11_rank (l : Launch) (D : va_G) (zt : Nat × Nat × Nat × (Nat → Nat) × (Nat → Nat)) (q : Nat → Nat) (d : Nat → ClassId) (I : Nat → Int32) (A : Nat → Nat → Int32) (z1 : Int32) (z2 : Int32) (hIv : IvX I A) : GM l D zt (tyX d) yX11_rank wz_k282_X11_rank ({ frames := 6, cells := 0, slots := 0, locals := 131 } : Room) [.ref (q 0), .int z1, .int z2] (wX q d I A) (fun v _ w' => ∃ (I' : Nat → Int32) (A' : Nat → Nat → Int32), Md [28, 30, 31, 32, 33, 34] I I' ∧ Md [21, 22, 23, 26] A A' ∧ IvX I' A' ∧ ∃ y0 : Int32, v = some (.int y0) ∧ w' = wX q d I' A') 0 0 := by
  refine GM.of (cc := cX11_rank) (maxL := 3) (ret := (some .int)) (own := RX11) (lv := [(0, .ref (q 0)), (1, .int z1), (2, .int z2)]) (by decide) rfl rfl (Nat.le_of_ble_eq_true rfl) rfl (fun κ sz hk hR hN => ?_)
  have hin11 : ∀ w ∈ u_ws RX11 TX11 10, w ∈ wz_k282_X11_rank := fun w h => (List.mem_cons_of_mem _ (List.mem_append_right _ (List.mem_append_left _ h)))
  refine g_aload_n hk dX11_rank_0 rfl ?_
  refine gX_r0_7 hk hin11 (List.mem_cons_of_mem _ (List.mem_append_left _ (List.mem_of_getElem? (i := 0) rfl))) dX11_rank_1 ?_
  refine g_iload_n hk dX11_rank_4 rfl ?_
  refine g_iload_n hk dX11_rank_5 rfl ?_
  refine g_callV (n := 2) hk (k223_X0_hasBoth l D zt q d I A z1 z2 hIv) (SP.same _) (fun _ h => h) (gi_V (List.mem_cons_of_mem _ (List.mem_append_left _ (List.mem_of_getElem? (i := 1) rfl))) (List.mem_cons_of_mem _ (List.mem_append_left _ (List.mem_of_getElem? (i := 2) rfl))) (List.mem_cons_of_mem _ (List.mem_append_left _ (List.mem_of_getElem? (i := 3) rfl))) (List.mem_cons_of_mem _ (List.mem_append_left _ (List.mem_of_getElem? (i := 4) rfl))) (gi_sub (fun w h => (List.mem_cons_of_mem _ (List.mem_append_right _ (List.mem_append_right _ (List.mem_append_left _ h))))) zg_k223_X0_hasBoth)) rfl rfl rfl (by decide +kernel) ⟨Nat.le_of_ble_eq_true rfl, Nat.le_of_ble_eq_true rfl⟩ 37 rfl rfl rfl rfl (Nat.le_of_ble_eq_true rfl) ⟨Nat.le_of_ble_eq_true rfl, Nat.le_of_ble_eq_true rfl⟩ dX11_rank_6 (fun v ty' w' hp hk' => ?_)
  rcases hp with ⟨rfl, rfl⟩ | ⟨c8065, c8066, c8067, c8068, c8069, c8070, c8071, c8072, rfl, rfl⟩
  · skip
    show GW κ 3 0 0 (wX q d I A) 9 [(0, .ref (q 0)), (1, .int z1), (2, .int z2)] [.int 0]
    refine g_if_ne (tgt := 14) (a := 0) hk dX11_rank_9 (by decide) rfl (fun z9 => absurd z9 (show ¬ ((0 : Int) ≠ (0 : Int)) from by decide)) (fun _ => ?_)
    refine g_iconst (v := (-1)) hk dX11_rank_12 (by decide) ?_
    exact g_iret hk hR rfl ⟨I, A, (show Md [28, 30, 31, 32, 33, 34] I I from Md.rf), (show Md [21, 22, 23, 26] A A from Md.rf), hIv, (-1), rfl, rfl⟩ dX11_rank_13
  · skip
    show GW κ 3 0 0 (wX q d I A) 9 [(0, .ref (q 0)), (1, .int z1), (2, .int z2)] [.int 1]
    refine g_if_ne (tgt := 14) (a := 1) hk dX11_rank_9 (by decide) rfl (fun _ => ?_) (fun z9 => absurd (show (1 : Int) ≠ (0 : Int) from by decide) z9)
    refine g_aload_n hk dX11_rank_14 rfl ?_
    refine gX_r0_8 hk hin11 (List.mem_cons_of_mem _ (List.mem_append_left _ (List.mem_of_getElem? (i := 5) rfl))) dX11_rank_15 ?_
    refine g_iload_n hk dX11_rank_18 rfl ?_
    refine g_callV (n := 1) hk (k270_X1_scan l D zt q d I A z1 hIv) (SP.same _) (fun _ h => h) (gi_V (List.mem_cons_of_mem _ (List.mem_append_left _ (List.mem_of_getElem? (i := 6) rfl))) (List.mem_cons_of_mem _ (List.mem_append_left _ (List.mem_of_getElem? (i := 7) rfl))) (List.mem_cons_of_mem _ (List.mem_append_left _ (List.mem_of_getElem? (i := 8) rfl))) (List.mem_cons_of_mem _ (List.mem_append_left _ (List.mem_of_getElem? (i := 9) rfl))) (gi_sub (fun w h => (List.mem_cons_of_mem _ (List.mem_append_right _ (List.mem_append_right _ (List.mem_append_right _ (List.mem_append_left _ h)))))) zg_k270_X1_scan)) rfl rfl rfl (by decide +kernel) ⟨Nat.le_of_ble_eq_true rfl, Nat.le_of_ble_eq_true rfl⟩ 43 rfl rfl rfl rfl (Nat.le_of_ble_eq_true rfl) ⟨Nat.le_of_ble_eq_true rfl, Nat.le_of_ble_eq_true rfl⟩ dX11_rank_19 (fun v ty' w' hp hk' => ?_)
    obtain ⟨I8075, A8075, hI8075, hA8075, hV8075, rfl, rfl⟩ := hp
    show GW κ 3 0 0 (wX q d I8075 A8075) 22 [(0, .ref (q 0)), (1, .int z1), (2, .int z2)] []
    refine g_aload_n hk dX11_rank_22 rfl ?_
    refine gX_r0_8 hk hin11 (List.mem_cons_of_mem _ (List.mem_append_left _ (List.mem_of_getElem? (i := 5) rfl))) dX11_rank_23 ?_
    refine g_iload_n hk dX11_rank_26 rfl ?_
    refine g_callV (n := 1) hk (k283_X1_rankOf l D zt q d I8075 A8075 z2 hV8075) (SP.same _) (fun _ h => h) (gi_V (List.mem_cons_of_mem _ (List.mem_append_left _ (List.mem_of_getElem? (i := 10) rfl))) (List.mem_cons_of_mem _ (List.mem_append_left _ (List.mem_of_getElem? (i := 11) rfl))) (List.mem_cons_of_mem _ (List.mem_append_left _ (List.mem_of_getElem? (i := 12) rfl))) (List.mem_cons_of_mem _ (List.mem_append_left _ (List.mem_of_getElem? (i := 9) rfl))) (gi_sub (fun w h => (List.mem_cons_of_mem _ (List.mem_append_right _ (List.mem_append_right _ (List.mem_append_right _ (List.mem_append_right _ (List.mem_append_left _ h))))))) zg_k283_X1_rankOf)) rfl rfl rfl (by decide +kernel) ⟨Nat.le_of_ble_eq_true rfl, Nat.le_of_ble_eq_true rfl⟩ 43 rfl rfl rfl rfl (Nat.le_of_ble_eq_true rfl) ⟨Nat.le_of_ble_eq_true rfl, Nat.le_of_ble_eq_true rfl⟩ dX11_rank_27 (fun v ty' w' hp hk' => ?_)
    obtain ⟨y8187, rfl, rfl⟩ := hp
    show GW κ 3 0 0 (wX q d I8075 A8075) 30 [(0, .ref (q 0)), (1, .int z1), (2, .int z2)] [.int y8187]
    have b8188l := Int32.le_toInt y8187
    have b8188h := Int32.toInt_lt y8187
    exact g_iret hk hR rfl ⟨I8075, A8075, (show Md [28, 30, 31, 32, 33, 34] I I8075 from (Md.tr Md.rf hI8075 rfl)), (show Md [21, 22, 23, 26] A A8075 from (Md.tr Md.rf hA8075 rfl)), hV8075, y8187, rfl, rfl⟩ dX11_rank_30
def wo_k286_X1_windowOfRank : List Cond := [Cond.fieldLink RX1 15 "WarpDesk$Finder" "distances" "[I", Cond.methodLink RX1 145 yX1_rankOf, Cond.instanceMethod yX1_rankOf, Cond.selects RX1 yX1_rankOf yX1_rankOf, Cond.initialized RX1]
def wz_k286_X1_windowOfRank : List Cond := .code yX1_windowOfRank cX1_windowOfRank 3 (some .int) :: (wo_k286_X1_windowOfRank ++ (wsX10 ++ (wz_k283_X1_rankOf ++ ([] : List Cond))))
theorem zg_k286_X1_windowOfRank : ∀ w ∈ wz_k286_X1_windowOfRank, goodWord w = true := zg_cons rfl (zg_app (by decide +kernel) (zg_app zgU_wsX10 (zg_app zg_k283_X1_rankOf zg_nil)))
theorem zi_k286_X1_windowOfRank : ∀ w ∈ wz_k286_X1_windowOfRank, w ∈ lw_tbl := zi_cons zw_1224 (zi_app (zi_cons zw_411 (zi_cons zw_1225 (zi_cons zw_1210 (zi_cons zw_1211 (zi_cons zw_113 zi_nil))))) (zi_app inX1 (zi_app zi_k283_X1_rankOf zi_nil)))
set_option maxHeartbeats 4000000 in
set_option maxRecDepth 100000 in
theorem k286_X1_windowOfRank (l : Launch) (D : va_G) (zt : Nat × Nat × Nat × (Nat → Nat) × (Nat → Nat)) (q : Nat → Nat) (d : Nat → ClassId) (I : Nat → Int32) (A : Nat → Nat → Int32) (z1 : Int32) (hIv : IvX I A) : GM l D zt (tyX d) yX1_windowOfRank wz_k286_X1_windowOfRank ({ frames := 2, cells := 0, slots := 0, locals := 46 } : Room) [.ref (q 43), .int z1] (wX q d I A) (fun v _ w' => ∃ y0 : Int32, ((-2) ≤ y0.toInt) ∧ (y0.toInt ≤ 159) ∧ v = some (.int y0) ∧ w' = wX q d I A) 0 0 := by
  refine GM.of (cc := cX1_windowOfRank) (maxL := 3) (ret := (some .int)) (own := RX1) (lv := [(0, .ref (q 43)), (1, .int z1)]) (by decide) rfl rfl (Nat.le_of_ble_eq_true rfl) rfl (fun κ sz hk hR hN => ?_)
  have hin1 : ∀ w ∈ u_ws RX1 TX1 11, w ∈ wz_k286_X1_windowOfRank := fun w h => (List.mem_cons_of_mem _ (List.mem_append_right _ (List.mem_append_left _ h)))
  refine g_iconst (v := 0) hk dX1_windowOfRank_0 (by decide) ?_
  refine g_istore_n (lv' := [(2, .int 0), (0, .ref (q 43)), (1, .int z1)]) hk dX1_windowOfRank_1 (by decide) rfl ?_
  have lp8242 : ∀ (n8243 : Nat) (x8202 : Int32), (0 ≤ x8202.toInt) → (x8202.toInt ≤ 160) → (161 - x8202.toInt < (n8243 : Int)) → (0 < n8243) → GW κ 3 0 0 (wX q d I A) 2 [(2, .int x8202), (0, .ref (q 43)), (1, .int z1)] [] := by
    intro n8243
    induction n8243 with
    | zero =>
      intro x8202 h8240 h8241 m8244 m8244z
      exact absurd m8244z (Nat.lt_irrefl 0)
    | succ n8243 ih8245 =>
      intro x8202 h8240 h8241 m8244 m8244z
      refine g_iload_n hk dX1_windowOfRank_2 rfl ?_
      refine g_sipush (v := 160) hk dX1_windowOfRank_3 (by decide) ?_
      refine g_icmp_ge (tgt := 35) (a := x8202.toInt) (b := 160) hk dX1_windowOfRank_6 (by decide) rfl rfl (fun c8246 => ?_) (fun c8246 => ?_)
      · skip
        refine g_bipush (v := (-2)) hk dX1_windowOfRank_35 (by decide) ?_
        exact g_iret hk hR rfl ⟨(-2), (by decide), (by decide), rfl, rfl⟩ dX1_windowOfRank_37
      · skip
        refine g_aload_n hk dX1_windowOfRank_9 rfl ?_
        refine gX_r43_6 hk hin1 (List.mem_cons_of_mem _ (List.mem_append_left _ (List.mem_of_getElem? (i := 0) rfl))) dX1_windowOfRank_10 ?_
        refine g_iload_n hk dX1_windowOfRank_13 rfl ?_
        refine lX_26 (v := (A 26 x8202.toNatClampNeg)) hk (vp_in_iff.mpr ⟨by omega, by omega⟩) rfl dX1_windowOfRank_14 ?_
        have b8247l := Int32.le_toInt (A 26 x8202.toNatClampNeg)
        have b8247h := Int32.toInt_lt (A 26 x8202.toNatClampNeg)
        refine g_if_lt (tgt := 29) (a := (A 26 x8202.toNatClampNeg).toInt) hk dX1_windowOfRank_15 (by decide) rfl (fun c8248 => ?_) (fun c8248 => ?_)
        · skip
          obtain ⟨y8249, ey8249⟩ : ∃ y : Int32, y = x8202 + Int32.ofInt 1 := ⟨_, rfl⟩
          have hy8249 : y8249.toInt = x8202.toInt + 1 := i32_add ey8249 rfl (by decide) (by omega) (by omega)
          refine g_iinc (v := y8249) (lv' := [(2, .int y8249), (0, .ref (q 43)), (1, .int z1)]) hk 0 dX1_windowOfRank_29 rfl ey8249.symm (by decide) rfl ?_
          refine g_goto (tgt := 2) hk dX1_windowOfRank_32 (by decide) ?_
          exact g_lv (List.forall_mem_cons.mpr ⟨List.mem_of_getElem? (i := 0) rfl, (List.forall_mem_cons.mpr ⟨List.mem_of_getElem? (i := 1) rfl, (List.forall_mem_cons.mpr ⟨List.mem_of_getElem? (i := 2) rfl, (fun _ h => absurd h List.not_mem_nil)⟩)⟩)⟩) (ih8245 y8249 (by omega) (by omega) (by omega) (by omega))
        · skip
          refine g_aload_n hk dX1_windowOfRank_18 rfl ?_
          refine g_iload_n hk dX1_windowOfRank_19 rfl ?_
          refine g_callV (n := 1) hk (k283_X1_rankOf l D zt q d I A x8202 hIv) (SP.same _) (fun _ h => h) (gi_V (List.mem_cons_of_mem _ (List.mem_append_left _ (List.mem_of_getElem? (i := 1) rfl))) (List.mem_cons_of_mem _ (List.mem_append_left _ (List.mem_of_getElem? (i := 2) rfl))) (List.mem_cons_of_mem _ (List.mem_append_left _ (List.mem_of_getElem? (i := 3) rfl))) (List.mem_cons_of_mem _ (List.mem_append_left _ (List.mem_of_getElem? (i := 4) rfl))) (gi_sub (fun w h => (List.mem_cons_of_mem _ (List.mem_append_right _ (List.mem_append_right _ (List.mem_append_left _ h))))) zg_k283_X1_rankOf)) rfl rfl rfl (by decide +kernel) ⟨Nat.le_of_ble_eq_true rfl, Nat.le_of_ble_eq_true rfl⟩ 43 rfl rfl rfl rfl (Nat.le_of_ble_eq_true rfl) ⟨Nat.le_of_ble_eq_true rfl, Nat.le_of_ble_eq_true rfl⟩ dX1_windowOfRank_20 (fun v ty' w' hp hk' => ?_)
          obtain ⟨y8250, rfl, rfl⟩ := hp
          show GW κ 3 0 0 (wX q d I A) 23 [(2, .int x8202), (0, .ref (q 43)), (1, .int z1)] [.int y8250]
          refine g_iload_n hk dX1_windowOfRank_23 rfl ?_
          have b8251l := Int32.le_toInt y8250
          have b8251h := Int32.toInt_lt y8250
          have b8252l := Int32.le_toInt z1
          have b8252h := Int32.toInt_lt z1
          refine g_icmp_ne (tgt := 29) (a := y8250.toInt) (b := z1.toInt) hk dX1_windowOfRank_24 (by decide) rfl rfl (fun c8253 => ?_) (fun c8253 => ?_)
          · skip
            obtain ⟨y8254, ey8254⟩ : ∃ y : Int32, y = x8202 + Int32.ofInt 1 := ⟨_, rfl⟩
            have hy8254 : y8254.toInt = x8202.toInt + 1 := i32_add ey8254 rfl (by decide) (by omega) (by omega)
            refine g_iinc (v := y8254) (lv' := [(2, .int y8254), (0, .ref (q 43)), (1, .int z1)]) hk 0 dX1_windowOfRank_29 rfl ey8254.symm (by decide) rfl ?_
            refine g_goto (tgt := 2) hk dX1_windowOfRank_32 (by decide) ?_
            exact g_lv (List.forall_mem_cons.mpr ⟨List.mem_of_getElem? (i := 0) rfl, (List.forall_mem_cons.mpr ⟨List.mem_of_getElem? (i := 1) rfl, (List.forall_mem_cons.mpr ⟨List.mem_of_getElem? (i := 2) rfl, (fun _ h => absurd h List.not_mem_nil)⟩)⟩)⟩) (ih8245 y8254 (by omega) (by omega) (by omega) (by omega))
          · skip
            refine g_iload_n hk dX1_windowOfRank_27 rfl ?_
            exact g_iret hk hR rfl ⟨x8202, (by omega), (by omega), rfl, rfl⟩ dX1_windowOfRank_28
  have k8256 : (0 : Int32).toInt = 0 := rfl
  obtain ⟨n8255, n8255a, n8255b⟩ : ∃ n : Nat, 161 - 0 < (n : Int) ∧ 0 < n := ⟨((161 - 0 : Int)).toNat + 1, by omega, by omega⟩
  exact lp8242 n8255 0 (by omega) (by omega) n8255a n8255b
def wo_k285_X11_kth : List Cond := [Cond.fieldLink RX11 35 "WarpDesk" "queries" "LWarpDesk$Queries;", Cond.methodLink RX11 251 yX4_has, Cond.instanceMethod yX4_has, Cond.selects RX4 yX4_has yX4_has, Cond.initialized RX4, Cond.fieldLink RX11 74 "WarpDesk" "finder" "LWarpDesk$Finder;", Cond.methodLink RX11 305 yX1_scan, Cond.instanceMethod yX1_scan, Cond.selects RX1 yX1_scan yX1_scan, Cond.initialized RX1, Cond.methodLink RX11 311 yX1_windowOfRank, Cond.instanceMethod yX1_windowOfRank, Cond.selects RX1 yX1_windowOfRank yX1_windowOfRank, Cond.methodLink RX11 314 yX1_scannedDistance, Cond.instanceMethod yX1_scannedDistance, Cond.selects RX1 yX1_scannedDistance yX1_scannedDistance]
def wz_k285_X11_kth : List Cond := .code yX11_kth cX11_kth 5 (some .int) :: (wo_k285_X11_kth ++ (wsX110 ++ (wz_k168_X4_has ++ (wz_k270_X1_scan ++ (wz_k286_X1_windowOfRank ++ (wz_k284_X1_scannedDistance ++ ([] : List Cond)))))))
theorem zg_k285_X11_kth : ∀ w ∈ wz_k285_X11_kth, goodWord w = true := zg_cons rfl (zg_app (by decide +kernel) (zg_app zgU_wsX110 (zg_app zg_k168_X4_has (zg_app zg_k270_X1_scan (zg_app zg_k286_X1_windowOfRank (zg_app zg_k284_X1_scannedDistance zg_nil))))))
theorem zi_k285_X11_kth : ∀ w ∈ wz_k285_X11_kth, w ∈ lw_tbl := zi_cons zw_1220 (zi_app (zi_cons zw_490 (zi_cons zw_1086 (zi_cons zw_747 (zi_cons zw_748 (zi_cons zw_108 (zi_cons zw_495 (zi_cons zw_1208 (zi_cons zw_1152 (zi_cons zw_1153 (zi_cons zw_113 (zi_cons zw_1221 (zi_cons zw_1222 (zi_cons zw_1223 (zi_cons zw_1226 (zi_cons zw_1214 (zi_cons zw_1215 zi_nil)))))))))))))))) (zi_app inX11 (zi_app zi_k168_X4_has (zi_app zi_k270_X1_scan (zi_app zi_k286_X1_windowOfRank (zi_app zi_k284_X1_scannedDistance zi_nil))))))
set_option maxHeartbeats 4000000 in
set_option maxRecDepth 100000 in
theorem k285_X11_kth (l : Launch) (D : va_G) (zt : Nat × Nat × Nat × (Nat → Nat) × (Nat → Nat)) (q : Nat → Nat) (d : Nat → ClassId) (I : Nat → Int32) (A : Nat → Nat → Int32) (z1 : Int32) (z2 : Int32) (z3 : Int32) (hIv : IvX I A) : GM l D zt (tyX d) yX11_kth wz_k285_X11_kth ({ frames := 6, cells := 0, slots := 0, locals := 131 } : Room) [.ref (q 0), .int z1, .int z2, .int z3] (wX q d I A) (fun v _ w' => ∃ (I' : Nat → Int32) (A' : Nat → Nat → Int32), Md [28, 30, 31, 32, 33, 34] I I' ∧ Md [21, 22, 23, 26] A A' ∧ IvX I' A' ∧ ∃ y0 : Int32, v = some (.int y0) ∧ w' = wX q d I' A') 0 0 := by
  refine GM.of (cc := cX11_kth) (maxL := 5) (ret := (some .int)) (own := RX11) (lv := [(0, .ref (q 0)), (1, .int z1), (2, .int z2), (3, .int z3)]) (by decide) rfl rfl (Nat.le_of_ble_eq_true rfl) rfl (fun κ sz hk hR hN => ?_)
  have hin11 : ∀ w ∈ u_ws RX11 TX11 10, w ∈ wz_k285_X11_kth := fun w h => (List.mem_cons_of_mem _ (List.mem_append_right _ (List.mem_append_left _ h)))
  refine g_iload_n hk dX11_kth_0 rfl ?_
  have b8189l := Int32.le_toInt z2
  have b8189h := Int32.toInt_lt z2
  refine g_if_lt (tgt := 24) (a := z2.toInt) hk dX11_kth_1 (by decide) rfl (fun c8190 => ?_) (fun c8190 => ?_)
  · skip
    refine g_iconst (v := (-1)) hk dX11_kth_24 (by decide) ?_
    exact g_iret hk hR rfl ⟨I, A, (show Md [28, 30, 31, 32, 33, 34] I I from Md.rf), (show Md [21, 22, 23, 26] A A from Md.rf), hIv, (-1), rfl, rfl⟩ dX11_kth_25
  · skip
    refine g_iload_n hk dX11_kth_4 rfl ?_
    have b8191l := Int32.le_toInt z3
    have b8191h := Int32.toInt_lt z3
    refine g_if_lt (tgt := 24) (a := z3.toInt) hk dX11_kth_5 (by decide) rfl (fun c8192 => ?_) (fun c8192 => ?_)
    · skip
      refine g_iconst (v := (-1)) hk dX11_kth_24 (by decide) ?_
      exact g_iret hk hR rfl ⟨I, A, (show Md [28, 30, 31, 32, 33, 34] I I from Md.rf), (show Md [21, 22, 23, 26] A A from Md.rf), hIv, (-1), rfl, rfl⟩ dX11_kth_25
    · skip
      refine g_iload_n hk dX11_kth_8 rfl ?_
      refine g_iconst (v := 1) hk dX11_kth_9 (by decide) ?_
      refine g_icmp_gt (tgt := 24) (a := z3.toInt) (b := 1) hk dX11_kth_10 (by decide) rfl rfl (fun c8193 => ?_) (fun c8193 => ?_)
      · skip
        refine g_iconst (v := (-1)) hk dX11_kth_24 (by decide) ?_
        exact g_iret hk hR rfl ⟨I, A, (show Md [28, 30, 31, 32, 33, 34] I I from Md.rf), (show Md [21, 22, 23, 26] A A from Md.rf), hIv, (-1), rfl, rfl⟩ dX11_kth_25
      · skip
        refine g_aload_n hk dX11_kth_13 rfl ?_
        refine gX_r0_3 hk hin11 (List.mem_cons_of_mem _ (List.mem_append_left _ (List.mem_of_getElem? (i := 0) rfl))) dX11_kth_14 ?_
        refine g_iload_n hk dX11_kth_17 rfl ?_
        refine g_callV (n := 1) hk (k168_X4_has l D zt q d I A z1 hIv) (SP.same _) (fun _ h => h) (gi_V (List.mem_cons_of_mem _ (List.mem_append_left _ (List.mem_of_getElem? (i := 1) rfl))) (List.mem_cons_of_mem _ (List.mem_append_left _ (List.mem_of_getElem? (i := 2) rfl))) (List.mem_cons_of_mem _ (List.mem_append_left _ (List.mem_of_getElem? (i := 3) rfl))) (List.mem_cons_of_mem _ (List.mem_append_left _ (List.mem_of_getElem? (i := 4) rfl))) (gi_sub (fun w h => (List.mem_cons_of_mem _ (List.mem_append_right _ (List.mem_append_right _ (List.mem_append_left _ h))))) zg_k168_X4_has)) rfl rfl rfl (by decide +kernel) ⟨Nat.le_of_ble_eq_true rfl, Nat.le_of_ble_eq_true rfl⟩ 15 rfl rfl rfl rfl (Nat.le_of_ble_eq_true rfl) ⟨Nat.le_of_ble_eq_true rfl, Nat.le_of_ble_eq_true rfl⟩ dX11_kth_18 (fun v ty' w' hp hk' => ?_)
        rcases hp with ⟨rfl, rfl⟩ | ⟨c8195, c8196, c8197, c8198, rfl, rfl⟩
        · skip
          show GW κ 5 0 0 (wX q d I A) 21 [(0, .ref (q 0)), (1, .int z1), (2, .int z2), (3, .int z3)] [.int 0]
          refine g_if_ne (tgt := 26) (a := 0) hk dX11_kth_21 (by decide) rfl (fun z9 => absurd z9 (show ¬ ((0 : Int) ≠ (0 : Int)) from by decide)) (fun _ => ?_)
          refine g_iconst (v := (-1)) hk dX11_kth_24 (by decide) ?_
          exact g_iret hk hR rfl ⟨I, A, (show Md [28, 30, 31, 32, 33, 34] I I from Md.rf), (show Md [21, 22, 23, 26] A A from Md.rf), hIv, (-1), rfl, rfl⟩ dX11_kth_25
        · skip
          show GW κ 5 0 0 (wX q d I A) 21 [(0, .ref (q 0)), (1, .int z1), (2, .int z2), (3, .int z3)] [.int 1]
          refine g_if_ne (tgt := 26) (a := 1) hk dX11_kth_21 (by decide) rfl (fun _ => ?_) (fun z9 => absurd (show (1 : Int) ≠ (0 : Int) from by decide) z9)
          refine g_aload_n hk dX11_kth_26 rfl ?_
          refine gX_r0_8 hk hin11 (List.mem_cons_of_mem _ (List.mem_append_left _ (List.mem_of_getElem? (i := 5) rfl))) dX11_kth_27 ?_
          refine g_iload_n hk dX11_kth_30 rfl ?_
          refine g_callV (n := 1) hk (k270_X1_scan l D zt q d I A z1 hIv) (SP.same _) (fun _ h => h) (gi_V (List.mem_cons_of_mem _ (List.mem_append_left _ (List.mem_of_getElem? (i := 6) rfl))) (List.mem_cons_of_mem _ (List.mem_append_left _ (List.mem_of_getElem? (i := 7) rfl))) (List.mem_cons_of_mem _ (List.mem_append_left _ (List.mem_of_getElem? (i := 8) rfl))) (List.mem_cons_of_mem _ (List.mem_append_left _ (List.mem_of_getElem? (i := 9) rfl))) (gi_sub (fun w h => (List.mem_cons_of_mem _ (List.mem_append_right _ (List.mem_append_right _ (List.mem_append_right _ (List.mem_append_left _ h)))))) zg_k270_X1_scan)) rfl rfl rfl (by decide +kernel) ⟨Nat.le_of_ble_eq_true rfl, Nat.le_of_ble_eq_true rfl⟩ 43 rfl rfl rfl rfl (Nat.le_of_ble_eq_true rfl) ⟨Nat.le_of_ble_eq_true rfl, Nat.le_of_ble_eq_true rfl⟩ dX11_kth_31 (fun v ty' w' hp hk' => ?_)
          obtain ⟨I8201, A8201, hI8201, hA8201, hV8201, rfl, rfl⟩ := hp
          show GW κ 5 0 0 (wX q d I8201 A8201) 34 [(0, .ref (q 0)), (1, .int z1), (2, .int z2), (3, .int z3)] []
          refine g_aload_n hk dX11_kth_34 rfl ?_
          refine gX_r0_8 hk hin11 (List.mem_cons_of_mem _ (List.mem_append_left _ (List.mem_of_getElem? (i := 5) rfl))) dX11_kth_35 ?_
          refine g_iload_n hk dX11_kth_38 rfl ?_
          refine g_callV (n := 1) hk (k286_X1_windowOfRank l D zt q d I8201 A8201 z2 hV8201) (SP.same _) (fun _ h => h) (gi_V (List.mem_cons_of_mem _ (List.mem_append_left _ (List.mem_of_getElem? (i := 10) rfl))) (List.mem_cons_of_mem _ (List.mem_append_left _ (List.mem_of_getElem? (i := 11) rfl))) (List.mem_cons_of_mem _ (List.mem_append_left _ (List.mem_of_getElem? (i := 12) rfl))) (List.mem_cons_of_mem _ (List.mem_append_left _ (List.mem_of_getElem? (i := 9) rfl))) (gi_sub (fun w h => (List.mem_cons_of_mem _ (List.mem_append_right _ (List.mem_append_right _ (List.mem_append_right _ (List.mem_append_right _ (List.mem_append_left _ h))))))) zg_k286_X1_windowOfRank)) rfl rfl rfl (by decide +kernel) ⟨Nat.le_of_ble_eq_true rfl, Nat.le_of_ble_eq_true rfl⟩ 43 rfl rfl rfl rfl (Nat.le_of_ble_eq_true rfl) ⟨Nat.le_of_ble_eq_true rfl, Nat.le_of_ble_eq_true rfl⟩ dX11_kth_39 (fun v ty' w' hp hk' => ?_)
          obtain ⟨y8257, c8258, c8259, rfl, rfl⟩ := hp
          show GW κ 5 0 0 (wX q d I8201 A8201) 42 [(0, .ref (q 0)), (1, .int z1), (2, .int z2), (3, .int z3)] [.int y8257]
          refine g_istore (lv' := [(4, .int y8257), (0, .ref (q 0)), (1, .int z1), (2, .int z2), (3, .int z3)]) hk dX11_kth_42 (by decide) rfl ?_
          refine g_iload_n hk dX11_kth_44 rfl ?_
          refine g_if_ne (tgt := 53) (a := z3.toInt) hk dX11_kth_45 (by decide) rfl (fun c8260 => ?_) (fun c8260 => ?_)
          · skip
            refine g_aload_n hk dX11_kth_53 rfl ?_
            refine gX_r0_8 hk hin11 (List.mem_cons_of_mem _ (List.mem_append_left _ (List.mem_of_getElem? (i := 5) rfl))) dX11_kth_54 ?_
            refine g_iload hk dX11_kth_57 rfl ?_
            refine g_callV (n := 1) hk (k284_X1_scannedDistance l D zt q d I8201 A8201 y8257 hV8201) (SP.same _) (fun _ h => h) (gi_V (List.mem_cons_of_mem _ (List.mem_append_left _ (List.mem_of_getElem? (i := 13) rfl))) (List.mem_cons_of_mem _ (List.mem_append_left _ (List.mem_of_getElem? (i := 14) rfl))) (List.mem_cons_of_mem _ (List.mem_append_left _ (List.mem_of_getElem? (i := 15) rfl))) (List.mem_cons_of_mem _ (List.mem_append_left _ (List.mem_of_getElem? (i := 9) rfl))) (gi_sub (fun w h => (List.mem_cons_of_mem _ (List.mem_append_right _ (List.mem_append_right _ (List.mem_append_right _ (List.mem_append_right _ (List.mem_append_right _ (List.mem_append_left _ h)))))))) zg_k284_X1_scannedDistance)) rfl rfl rfl (by decide +kernel) ⟨Nat.le_of_ble_eq_true rfl, Nat.le_of_ble_eq_true rfl⟩ 43 rfl rfl rfl rfl (Nat.le_of_ble_eq_true rfl) ⟨Nat.le_of_ble_eq_true rfl, Nat.le_of_ble_eq_true rfl⟩ dX11_kth_59 (fun v ty' w' hp hk' => ?_)
            obtain ⟨y8261, rfl, rfl⟩ := hp
            show GW κ 5 0 0 (wX q d I8201 A8201) 62 [(4, .int y8257), (0, .ref (q 0)), (1, .int z1), (2, .int z2), (3, .int z3)] [.int y8261]
            have b8262l := Int32.le_toInt y8261
            have b8262h := Int32.toInt_lt y8261
            exact g_iret hk hR rfl ⟨I8201, A8201, (show Md [28, 30, 31, 32, 33, 34] I I8201 from (Md.tr Md.rf hI8201 rfl)), (show Md [21, 22, 23, 26] A A8201 from (Md.tr Md.rf hA8201 rfl)), hV8201, y8261, rfl, rfl⟩ dX11_kth_62
          · skip
            refine g_iload hk dX11_kth_48 rfl ?_
            refine g_goto (tgt := 62) hk dX11_kth_50 (by decide) ?_
            exact g_iret hk hR rfl ⟨I8201, A8201, (show Md [28, 30, 31, 32, 33, 34] I I8201 from (Md.tr Md.rf hI8201 rfl)), (show Md [21, 22, 23, 26] A A8201 from (Md.tr Md.rf hA8201 rfl)), hV8201, y8257, rfl, rfl⟩ dX11_kth_62
def wo_k288_X1_slackSum : List Cond := [Cond.fieldLink RX1 28 "WarpDesk$Finder" "bench" "LWarpDesk$Bench;", Cond.fieldLink RX1 45 "WarpDesk$Bench" "settings" "LWarpDesk$Settings;", Cond.methodLink RX1 49 yX7_valueOf, Cond.instanceMethod yX7_valueOf, Cond.selects RX7 yX7_valueOf yX7_valueOf, Cond.initialized RX7, Cond.methodLink RX1 55 yX0_openQuery, Cond.instanceMethod yX0_openQuery, Cond.selects RX0 yX0_openQuery yX0_openQuery, Cond.initialized RX0, Cond.fieldLink RX1 38 "WarpDesk$Finder" "series" "LWarpDesk$Series;", Cond.fieldLink RX1 59 "WarpDesk$Series" "size" "I", Cond.fieldLink RX1 43 "WarpDesk$Finder" "queries" "LWarpDesk$Queries;", Cond.methodLink RX1 65 yX4_lengthOf, Cond.instanceMethod yX4_lengthOf, Cond.selects RX4 yX4_lengthOf yX4_lengthOf, Cond.initialized RX4, Cond.methodLink RX1 70 yX6_hasWindow, Cond.instanceMethod yX6_hasWindow, Cond.selects RX6 yX6_hasWindow yX6_hasWindow, Cond.initialized RX6, Cond.methodLink RX1 74 yX0_laySecondWindow, Cond.instanceMethod yX0_laySecondWindow, Cond.selects RX0 yX0_laySecondWindow yX0_laySecondWindow, Cond.fieldLink RX1 78 "WarpDesk$Bench" "fit" "LWarpDesk$Fit;", Cond.methodLink RX1 148 yX2_endsBound, Cond.instanceMethod yX2_endsBound, Cond.selects RX2 yX2_endsBound yX2_endsBound, Cond.initialized RX2, Cond.methodLink RX1 151 yX2_overBound, Cond.instanceMethod yX2_overBound, Cond.selects RX2 yX2_overBound yX2_overBound, Cond.methodLink RX1 154 yX2_backBound, Cond.instanceMethod yX2_backBound, Cond.selects RX2 yX2_backBound yX2_backBound, Cond.methodLink RX1 157 Lib.Math.max.name, Cond.static Lib.Math.max.name, Cond.initialized "java/lang/Math", Cond.code Lib.Math.max.name Lib.Math.max.code 2 (some .int), Cond.methodLink RX1 113 yX2_wholeDistance, Cond.instanceMethod yX2_wholeDistance, Cond.selects RX2 yX2_wholeDistance yX2_wholeDistance]
def wz_k288_X1_slackSum : List Cond := .code yX1_slackSum cX1_slackSum 6 (some .int) :: (wo_k288_X1_slackSum ++ (wsX00 ++ (wsX10 ++ (wsX60 ++ (wz_k194_X7_valueOf ++ (wz_k224_X0_openQuery ++ (wz_k182_X4_lengthOf ++ (wz_k207_X6_hasWindow ++ (wz_k226_X0_laySecondWindow ++ (wz_k239_X2_endsBound ++ (wz_k240_X2_overBound ++ (wz_k243_X2_backBound ++ (wz_k232_X2_wholeDistance ++ ([] : List Cond))))))))))))))
theorem zg_k288_X1_slackSum : ∀ w ∈ wz_k288_X1_slackSum, goodWord w = true := zg_cons rfl (zg_app (by decide +kernel) (zg_app zgU_wsX00 (zg_app zgU_wsX10 (zg_app zgU_wsX60 (zg_app zg_k194_X7_valueOf (zg_app zg_k224_X0_openQuery (zg_app zg_k182_X4_lengthOf (zg_app zg_k207_X6_hasWindow (zg_app zg_k226_X0_laySecondWindow (zg_app zg_k239_X2_endsBound (zg_app zg_k240_X2_overBound (zg_app zg_k243_X2_backBound (zg_app zg_k232_X2_wholeDistance zg_nil)))))))))))))
theorem zi_k288_X1_slackSum : ∀ w ∈ wz_k288_X1_slackSum, w ∈ lw_tbl := zi_cons zw_1234 (zi_app (zi_cons zw_402 (zi_cons zw_379 (zi_cons zw_1137 (zi_cons zw_786 (zi_cons zw_787 (zi_cons zw_107 (zi_cons zw_1121 (zi_cons zw_981 (zi_cons zw_982 (zi_cons zw_111 (zi_cons zw_403 (zi_cons zw_283 (zi_cons zw_404 (zi_cons zw_1102 (zi_cons zw_757 (zi_cons zw_758 (zi_cons zw_108 (zi_cons zw_1122 (zi_cons zw_902 (zi_cons zw_903 (zi_cons zw_109 (zi_cons zw_1123 (zi_cons zw_989 (zi_cons zw_990 (zi_cons zw_382 (zi_cons zw_1235 (zi_cons zw_1022 (zi_cons zw_1023 (zi_cons zw_112 (zi_cons zw_1236 (zi_cons zw_1026 (zi_cons zw_1027 (zi_cons zw_1237 (zi_cons zw_1038 (zi_cons zw_1039 (zi_cons zw_1238 (zi_cons zw_920 (zi_cons zw_120 (zi_cons zw_921 (zi_cons zw_1104 (zi_cons zw_993 (zi_cons zw_994 zi_nil)))))))))))))))))))))))))))))))))))))))))) (zi_app inX0 (zi_app inX1 (zi_app inX6 (zi_app zi_k194_X7_valueOf (zi_app zi_k224_X0_openQuery (zi_app zi_k182_X4_lengthOf (zi_app zi_k207_X6_hasWindow (zi_app zi_k226_X0_laySecondWindow (zi_app zi_k239_X2_endsBound (zi_app zi_k240_X2_overBound (zi_app zi_k243_X2_backBound (zi_app zi_k232_X2_wholeDistance zi_nil)))))))))))))
set_option maxHeartbeats 4000000 in
set_option maxRecDepth 100000 in
theorem k288_X1_slackSum (l : Launch) (D : va_G) (zt : Nat × Nat × Nat × (Nat → Nat) × (Nat → Nat)) (q : Nat → Nat) (d : Nat → ClassId) (I : Nat → Int32) (A : Nat → Nat → Int32) (z1 : Int32) (hIv : IvX I A) : GM l D zt (tyX d) yX1_slackSum wz_k288_X1_slackSum ({ frames := 5, cells := 0, slots := 0, locals := 109 } : Room) [.ref (q 43), .int z1] (wX q d I A) (fun v _ w' => ∃ (I' : Nat → Int32) (A' : Nat → Nat → Int32), Md [28, 30, 31, 32, 33, 34] I I' ∧ Md [21, 22, 23] A A' ∧ IvX I' A' ∧ ∃ y0 : Int32, v = some (.int y0) ∧ w' = wX q d I' A') 0 0 := by
  refine GM.of (cc := cX1_slackSum) (maxL := 6) (ret := (some .int)) (own := RX1) (lv := [(0, .ref (q 43)), (1, .int z1)]) (by decide) rfl rfl (Nat.le_of_ble_eq_true rfl) rfl (fun κ sz hk hR hN => ?_)
  have hin0 : ∀ w ∈ u_ws RX0 TX0 5, w ∈ wz_k288_X1_slackSum := fun w h => (List.mem_cons_of_mem _ (List.mem_append_right _ (List.mem_append_left _ h)))
  have hin1 : ∀ w ∈ u_ws RX1 TX1 11, w ∈ wz_k288_X1_slackSum := fun w h => (List.mem_cons_of_mem _ (List.mem_append_right _ (List.mem_append_right _ (List.mem_append_left _ h))))
  have hin6 : ∀ w ∈ u_ws RX6 TX6 3, w ∈ wz_k288_X1_slackSum := fun w h => (List.mem_cons_of_mem _ (List.mem_append_right _ (List.mem_append_right _ (List.mem_append_right _ (List.mem_append_left _ h)))))
  refine g_iconst (v := 0) hk dX1_slackSum_0 (by decide) ?_
  refine g_istore_n (lv' := [(2, .int 0), (0, .ref (q 43)), (1, .int z1)]) hk dX1_slackSum_1 (by decide) rfl ?_
  refine g_aload_n hk dX1_slackSum_2 rfl ?_
  refine gX_r43_0 hk hin1 (List.mem_cons_of_mem _ (List.mem_append_left _ (List.mem_of_getElem? (i := 0) rfl))) dX1_slackSum_3 ?_
  refine g_iload_n hk dX1_slackSum_6 rfl ?_
  refine g_aload_n hk dX1_slackSum_7 rfl ?_
  refine gX_r43_0 hk hin1 (List.mem_cons_of_mem _ (List.mem_append_left _ (List.mem_of_getElem? (i := 0) rfl))) dX1_slackSum_8 ?_
  refine gX_r37_2 hk hin0 (List.mem_cons_of_mem _ (List.mem_append_left _ (List.mem_of_getElem? (i := 1) rfl))) dX1_slackSum_11 ?_
  refine g_iconst (v := 0) hk dX1_slackSum_14 (by decide) ?_
  have k8269 : (0 : Int32).toInt = 0 := rfl
  refine g_callV (n := 1) hk (k194_X7_valueOf l D zt q d I A 0 hIv) (SP.same _) (fun _ h => h) (gi_V (List.mem_cons_of_mem _ (List.mem_append_left _ (List.mem_of_getElem? (i := 2) rfl))) (List.mem_cons_of_mem _ (List.mem_append_left _ (List.mem_of_getElem? (i := 3) rfl))) (List.mem_cons_of_mem _ (List.mem_append_left _ (List.mem_of_getElem? (i := 4) rfl))) (List.mem_cons_of_mem _ (List.mem_append_left _ (List.mem_of_getElem? (i := 5) rfl))) (gi_sub (fun w h => (List.mem_cons_of_mem _ (List.mem_append_right _ (List.mem_append_right _ (List.mem_append_right _ (List.mem_append_right _ (List.mem_append_left _ h))))))) zg_k194_X7_valueOf)) rfl rfl rfl (by decide +kernel) ⟨Nat.le_of_ble_eq_true rfl, Nat.le_of_ble_eq_true rfl⟩ 18 rfl rfl rfl rfl (Nat.le_of_ble_eq_true rfl) ⟨Nat.le_of_ble_eq_true rfl, Nat.le_of_ble_eq_true rfl⟩ dX1_slackSum_15 (fun v ty' w' hp hk' => ?_)
  obtain ⟨y8270, rfl, rfl⟩ := hp
  show GW κ 6 0 0 (wX q d I A) 18 [(2, .int 0), (0, .ref (q 43)), (1, .int z1)] [.int y8270, .int z1, .ref (q 37)]
  refine g_callV (n := 2) hk (k224_X0_openQuery l D zt q d I A z1 y8270 hIv) (SP.same _) (fun _ h => h) (gi_V (List.mem_cons_of_mem _ (List.mem_append_left _ (List.mem_of_getElem? (i := 6) rfl))) (List.mem_cons_of_mem _ (List.mem_append_left _ (List.mem_of_getElem? (i := 7) rfl))) (List.mem_cons_of_mem _ (List.mem_append_left _ (List.mem_of_getElem? (i := 8) rfl))) (List.mem_cons_of_mem _ (List.mem_append_left _ (List.mem_of_getElem? (i := 9) rfl))) (gi_sub (fun w h => (List.mem_cons_of_mem _ (List.mem_append_right _ (List.mem_append_right _ (List.mem_append_right _ (List.mem_append_right _ (List.mem_append_right _ (List.mem_append_left _ h)))))))) zg_k224_X0_openQuery)) rfl rfl rfl (by decide +kernel) ⟨Nat.le_of_ble_eq_true rfl, Nat.le_of_ble_eq_true rfl⟩ 37 rfl rfl rfl rfl (Nat.le_of_ble_eq_true rfl) ⟨Nat.le_of_ble_eq_true rfl, Nat.le_of_ble_eq_true rfl⟩ dX1_slackSum_18 (fun v ty' w' hp hk' => ?_)
  obtain ⟨I8272, A8272, hI8272, hA8272, hV8272, rfl, rfl⟩ := hp
  show GW κ 6 0 0 (wX q d I8272 A8272) 21 [(2, .int 0), (0, .ref (q 43)), (1, .int z1)] []
  refine g_iconst (v := 0) hk dX1_slackSum_21 (by decide) ?_
  refine g_istore_n (lv' := [(3, .int 0), (2, .int 0), (0, .ref (q 43)), (1, .int z1)]) hk dX1_slackSum_22 (by decide) rfl ?_
  have lp8555 : ∀ (n8556 : Nat) (x8273 : Int32) (x8274 : Int32) (I8277 : Nat → Int32) (A8277 : Nat → Nat → Int32), (Md [33, 34] I8272 I8277) → (Md [22, 23] A8272 A8277) → (IvX I8277 A8277) → (0 ≤ x8273.toInt) → (x8273.toInt ≤ 160) → (161 - x8273.toInt < (n8556 : Int)) → (0 < n8556) → GW κ 6 0 0 (wX q d I8277 A8277) 23 [(3, .int x8273), (2, .int x8274), (0, .ref (q 43)), (1, .int z1)] [] := by
    intro n8556
    induction n8556 with
    | zero =>
      intro x8273 x8274 I8277 A8277 hI8277 hA8277 hV8277 h8553 h8554 m8557 m8557z
      exact absurd m8557z (Nat.lt_irrefl 0)
    | succ n8556 ih8558 =>
      intro x8273 x8274 I8277 A8277 hI8277 hA8277 hV8277 h8553 h8554 m8557 m8557z
      refine g_iload_n hk dX1_slackSum_23 rfl ?_
      refine g_aload_n hk dX1_slackSum_24 rfl ?_
      refine gX_r43_1 hk hin1 (List.mem_cons_of_mem _ (List.mem_append_left _ (List.mem_of_getElem? (i := 10) rfl))) dX1_slackSum_25 ?_
      refine gX_i18 (v := (I 18)) hk hin6 (List.mem_cons_of_mem _ (List.mem_append_left _ (List.mem_of_getElem? (i := 11) rfl))) dX1_slackSum_28 ((hI8277 18 rfl).trans (hI8272 18 rfl)) ?_
      have f8559 := IvX_f18 hIv
      refine g_icmp_ge (tgt := 110) (a := x8273.toInt) (b := (I 18).toInt) hk dX1_slackSum_31 (by decide) rfl rfl (fun c8560 => ?_) (fun c8560 => ?_)
      · skip
        refine g_iload_n hk dX1_slackSum_110 rfl ?_
        have b8561l := Int32.le_toInt x8274
        have b8561h := Int32.toInt_lt x8274
        exact g_iret hk hR rfl ⟨I8277, A8277, (show Md [28, 30, 31, 32, 33, 34] I I8277 from (Md.tr (Md.tr Md.rf hI8272 rfl) hI8277 rfl)), (show Md [21, 22, 23] A A8277 from (Md.tr (Md.tr Md.rf hA8272 rfl) hA8277 rfl)), hV8277, x8274, rfl, rfl⟩ dX1_slackSum_111
      · skip
        refine g_aload_n hk dX1_slackSum_34 rfl ?_
        refine gX_r43_1 hk hin1 (List.mem_cons_of_mem _ (List.mem_append_left _ (List.mem_of_getElem? (i := 10) rfl))) dX1_slackSum_35 ?_
        refine g_iload_n hk dX1_slackSum_38 rfl ?_
        refine g_aload_n hk dX1_slackSum_39 rfl ?_
        refine gX_r43_2 hk hin1 (List.mem_cons_of_mem _ (List.mem_append_left _ (List.mem_of_getElem? (i := 12) rfl))) dX1_slackSum_40 ?_
        refine g_iload_n hk dX1_slackSum_43 rfl ?_
        refine g_callV (n := 1) hk (k182_X4_lengthOf l D zt q d I8277 A8277 z1 hV8277) (SP.same _) (fun _ h => h) (gi_V (List.mem_cons_of_mem _ (List.mem_append_left _ (List.mem_of_getElem? (i := 13) rfl))) (List.mem_cons_of_mem _ (List.mem_append_left _ (List.mem_of_getElem? (i := 14) rfl))) (List.mem_cons_of_mem _ (List.mem_append_left _ (List.mem_of_getElem? (i := 15) rfl))) (List.mem_cons_of_mem _ (List.mem_append_left _ (List.mem_of_getElem? (i := 16) rfl))) (gi_sub (fun w h => (List.mem_cons_of_mem _ (List.mem_append_right _ (List.mem_append_right _ (List.mem_append_right _ (List.mem_append_right _ (List.mem_append_right _ (List.mem_append_right _ (List.mem_append_left _ h))))))))) zg_k182_X4_lengthOf)) rfl rfl rfl (by decide +kernel) ⟨Nat.le_of_ble_eq_true rfl, Nat.le_of_ble_eq_true rfl⟩ 15 rfl rfl rfl rfl (Nat.le_of_ble_eq_true rfl) ⟨Nat.le_of_ble_eq_true rfl, Nat.le_of_ble_eq_true rfl⟩ dX1_slackSum_44 (fun v ty' w' hp hk' => ?_)
        rcases hp with ⟨rfl, rfl⟩ | ⟨y8569, c8563, c8564, c8565, c8566, c8567, c8568, c8570, c8571, rfl, rfl⟩
        · skip
          show GW κ 6 0 0 (wX q d I8277 A8277) 47 [(3, .int x8273), (2, .int x8274), (0, .ref (q 43)), (1, .int z1)] [.int 0, .int x8273, .ref (q 13)]
          refine g_callV (n := 2) hk (k207_X6_hasWindow l D zt q d I8277 A8277 x8273 0 hV8277) (SP.same _) (fun _ h => h) (gi_V (List.mem_cons_of_mem _ (List.mem_append_left _ (List.mem_of_getElem? (i := 17) rfl))) (List.mem_cons_of_mem _ (List.mem_append_left _ (List.mem_of_getElem? (i := 18) rfl))) (List.mem_cons_of_mem _ (List.mem_append_left _ (List.mem_of_getElem? (i := 19) rfl))) (List.mem_cons_of_mem _ (List.mem_append_left _ (List.mem_of_getElem? (i := 20) rfl))) (gi_sub (fun w h => (List.mem_cons_of_mem _ (List.mem_append_right _ (List.mem_append_right _ (List.mem_append_right _ (List.mem_append_right _ (List.mem_append_right _ (List.mem_append_right _ (List.mem_append_right _ (List.mem_append_left _ h)))))))))) zg_k207_X6_hasWindow)) rfl rfl rfl (by decide +kernel) ⟨Nat.le_of_ble_eq_true rfl, Nat.le_of_ble_eq_true rfl⟩ 13 rfl rfl rfl rfl (Nat.le_of_ble_eq_true rfl) ⟨Nat.le_of_ble_eq_true rfl, Nat.le_of_ble_eq_true rfl⟩ dX1_slackSum_47 (fun v ty' w' hp hk' => ?_)
          rcases hp with ⟨rfl, rfl⟩ | ⟨c8573, c8574, c8575, c8576, c8577, c8578, rfl, rfl⟩
          · skip
            show GW κ 6 0 0 (wX q d I8277 A8277) 50 [(3, .int x8273), (2, .int x8274), (0, .ref (q 43)), (1, .int z1)] [.int 0]
            refine g_if_eq (tgt := 104) (a := 0) hk dX1_slackSum_50 (by decide) rfl (fun _ => ?_) (fun z9 => absurd (show (0 : Int) = (0 : Int) from by decide) z9)
            obtain ⟨y8580, ey8580⟩ : ∃ y : Int32, y = x8273 + Int32.ofInt 1 := ⟨_, rfl⟩
            have hy8580 : y8580.toInt = x8273.toInt + 1 := i32_add ey8580 rfl (by decide) (by omega) (by omega)
            refine g_iinc (v := y8580) (lv' := [(3, .int y8580), (2, .int x8274), (0, .ref (q 43)), (1, .int z1)]) hk 0 dX1_slackSum_104 rfl ey8580.symm (by decide) rfl ?_
            refine g_goto (tgt := 23) hk dX1_slackSum_107 (by decide) ?_
            exact g_lv (List.forall_mem_cons.mpr ⟨List.mem_of_getElem? (i := 0) rfl, (List.forall_mem_cons.mpr ⟨List.mem_of_getElem? (i := 1) rfl, (List.forall_mem_cons.mpr ⟨List.mem_of_getElem? (i := 2) rfl, (List.forall_mem_cons.mpr ⟨List.mem_of_getElem? (i := 3) rfl, (fun _ h => absurd h List.not_mem_nil)⟩)⟩)⟩)⟩) (ih8558 y8580 x8274 I8277 A8277 (show Md [33, 34] I8272 I8277 from Md.tr hI8277 (show Md [33, 34] I8277 I8277 from Md.rf) rfl) (show Md [22, 23] A8272 A8277 from Md.tr hA8277 (show Md [22, 23] A8277 A8277 from Md.rf) rfl) hV8277 (by omega) (by omega) (by omega) (by omega))
          · skip
            show GW κ 6 0 0 (wX q d I8277 A8277) 50 [(3, .int x8273), (2, .int x8274), (0, .ref (q 43)), (1, .int z1)] [.int 1]
            refine g_if_eq (tgt := 104) (a := 1) hk dX1_slackSum_50 (by decide) rfl (fun z9 => absurd z9 (show ¬ ((1 : Int) = (0 : Int)) from by decide)) (fun _ => ?_)
            refine g_aload_n hk dX1_slackSum_53 rfl ?_
            refine gX_r43_0 hk hin1 (List.mem_cons_of_mem _ (List.mem_append_left _ (List.mem_of_getElem? (i := 0) rfl))) dX1_slackSum_54 ?_
            refine g_iload_n hk dX1_slackSum_57 rfl ?_
            refine g_callV (n := 1) hk (k226_X0_laySecondWindow l D zt q d I8277 A8277 x8273 hV8277) (SP.same _) (fun _ h => h) (gi_V (List.mem_cons_of_mem _ (List.mem_append_left _ (List.mem_of_getElem? (i := 21) rfl))) (List.mem_cons_of_mem _ (List.mem_append_left _ (List.mem_of_getElem? (i := 22) rfl))) (List.mem_cons_of_mem _ (List.mem_append_left _ (List.mem_of_getElem? (i := 23) rfl))) (List.mem_cons_of_mem _ (List.mem_append_left _ (List.mem_of_getElem? (i := 9) rfl))) (gi_sub (fun w h => (List.mem_cons_of_mem _ (List.mem_append_right _ (List.mem_append_right _ (List.mem_append_right _ (List.mem_append_right _ (List.mem_append_right _ (List.mem_append_right _ (List.mem_append_right _ (List.mem_append_right _ (List.mem_append_left _ h))))))))))) zg_k226_X0_laySecondWindow)) rfl rfl rfl (by decide +kernel) ⟨Nat.le_of_ble_eq_true rfl, Nat.le_of_ble_eq_true rfl⟩ 37 rfl rfl rfl rfl (Nat.le_of_ble_eq_true rfl) ⟨Nat.le_of_ble_eq_true rfl, Nat.le_of_ble_eq_true rfl⟩ dX1_slackSum_58 (fun v ty' w' hp hk' => ?_)
            obtain ⟨I8582, A8582, hI8582, hA8582, hV8582, rfl, rfl⟩ := hp
            show GW κ 6 0 0 (wX q d I8582 A8582) 61 [(3, .int x8273), (2, .int x8274), (0, .ref (q 43)), (1, .int z1)] []
            refine g_aload_n hk dX1_slackSum_61 rfl ?_
            refine gX_r43_0 hk hin1 (List.mem_cons_of_mem _ (List.mem_append_left _ (List.mem_of_getElem? (i := 0) rfl))) dX1_slackSum_62 ?_
            refine gX_r37_3 hk hin0 (List.mem_cons_of_mem _ (List.mem_append_left _ (List.mem_of_getElem? (i := 24) rfl))) dX1_slackSum_65 ?_
            refine g_astore (lv' := [(4, .ref (q 38)), (3, .int x8273), (2, .int x8274), (0, .ref (q 43)), (1, .int z1)]) hk dX1_slackSum_68 (by decide) rfl ?_
            refine g_aload hk dX1_slackSum_70 rfl ?_
            refine g_callV (n := 0) hk (k239_X2_endsBound l D zt q d I8582 A8582  hV8582) (SP.same _) (fun _ h => h) (gi_V (List.mem_cons_of_mem _ (List.mem_append_left _ (List.mem_of_getElem? (i := 25) rfl))) (List.mem_cons_of_mem _ (List.mem_append_left _ (List.mem_of_getElem? (i := 26) rfl))) (List.mem_cons_of_mem _ (List.mem_append_left _ (List.mem_of_getElem? (i := 27) rfl))) (List.mem_cons_of_mem _ (List.mem_append_left _ (List.mem_of_getElem? (i := 28) rfl))) (gi_sub (fun w h => (List.mem_cons_of_mem _ (List.mem_append_right _ (List.mem_append_right _ (List.mem_append_right _ (List.mem_append_right _ (List.mem_append_right _ (List.mem_append_right _ (List.mem_append_right _ (List.mem_append_right _ (List.mem_append_right _ (List.mem_append_left _ h)))))))))))) zg_k239_X2_endsBound)) rfl rfl rfl (by decide +kernel) ⟨Nat.le_of_ble_eq_true rfl, Nat.le_of_ble_eq_true rfl⟩ 38 rfl rfl rfl rfl (Nat.le_of_ble_eq_true rfl) ⟨Nat.le_of_ble_eq_true rfl, Nat.le_of_ble_eq_true rfl⟩ dX1_slackSum_72 (fun v ty' w' hp hk' => ?_)
            obtain ⟨y8583, rfl, rfl⟩ := hp
            show GW κ 6 0 0 (wX q d I8582 A8582) 75 [(4, .ref (q 38)), (3, .int x8273), (2, .int x8274), (0, .ref (q 43)), (1, .int z1)] [.int y8583]
            refine g_aload hk dX1_slackSum_75 rfl ?_
            refine g_callV (n := 0) hk (k240_X2_overBound l D zt q d I8582 A8582  hV8582) (SP.same _) (fun _ h => h) (gi_V (List.mem_cons_of_mem _ (List.mem_append_left _ (List.mem_of_getElem? (i := 29) rfl))) (List.mem_cons_of_mem _ (List.mem_append_left _ (List.mem_of_getElem? (i := 30) rfl))) (List.mem_cons_of_mem _ (List.mem_append_left _ (List.mem_of_getElem? (i := 31) rfl))) (List.mem_cons_of_mem _ (List.mem_append_left _ (List.mem_of_getElem? (i := 28) rfl))) (gi_sub (fun w h => (List.mem_cons_of_mem _ (List.mem_append_right _ (List.mem_append_right _ (List.mem_append_right _ (List.mem_append_right _ (List.mem_append_right _ (List.mem_append_right _ (List.mem_append_right _ (List.mem_append_right _ (List.mem_append_right _ (List.mem_append_right _ (List.mem_append_left _ h))))))))))))) zg_k240_X2_overBound)) rfl rfl rfl (by decide +kernel) ⟨Nat.le_of_ble_eq_true rfl, Nat.le_of_ble_eq_true rfl⟩ 38 rfl rfl rfl rfl (Nat.le_of_ble_eq_true rfl) ⟨Nat.le_of_ble_eq_true rfl, Nat.le_of_ble_eq_true rfl⟩ dX1_slackSum_77 (fun v ty' w' hp hk' => ?_)
            obtain ⟨y8584, rfl, rfl⟩ := hp
            show GW κ 6 0 0 (wX q d I8582 A8582) 80 [(4, .ref (q 38)), (3, .int x8273), (2, .int x8274), (0, .ref (q 43)), (1, .int z1)] [.int y8584, .int y8583]
            refine g_aload hk dX1_slackSum_80 rfl ?_
            refine g_callV (n := 0) hk (k243_X2_backBound l D zt q d I8582 A8582  hV8582) (SP.same _) (fun _ h => h) (gi_V (List.mem_cons_of_mem _ (List.mem_append_left _ (List.mem_of_getElem? (i := 32) rfl))) (List.mem_cons_of_mem _ (List.mem_append_left _ (List.mem_of_getElem? (i := 33) rfl))) (List.mem_cons_of_mem _ (List.mem_append_left _ (List.mem_of_getElem? (i := 34) rfl))) (List.mem_cons_of_mem _ (List.mem_append_left _ (List.mem_of_getElem? (i := 28) rfl))) (gi_sub (fun w h => (List.mem_cons_of_mem _ (List.mem_append_right _ (List.mem_append_right _ (List.mem_append_right _ (List.mem_append_right _ (List.mem_append_right _ (List.mem_append_right _ (List.mem_append_right _ (List.mem_append_right _ (List.mem_append_right _ (List.mem_append_right _ (List.mem_append_right _ (List.mem_append_left _ h)))))))))))))) zg_k243_X2_backBound)) rfl rfl rfl (by decide +kernel) ⟨Nat.le_of_ble_eq_true rfl, Nat.le_of_ble_eq_true rfl⟩ 38 rfl rfl rfl rfl (Nat.le_of_ble_eq_true rfl) ⟨Nat.le_of_ble_eq_true rfl, Nat.le_of_ble_eq_true rfl⟩ dX1_slackSum_82 (fun v ty' w' hp hk' => ?_)
            obtain ⟨y8585, rfl, rfl⟩ := hp
            show GW κ 6 0 0 (wX q d I8582 A8582) 85 [(4, .ref (q 38)), (3, .int x8273), (2, .int x8274), (0, .ref (q 43)), (1, .int z1)] [.int y8585, .int y8584, .int y8583]
            have b8586l := Int32.le_toInt y8585
            have b8586h := Int32.toInt_lt y8585
            have b8587l := Int32.le_toInt y8584
            have b8587h := Int32.toInt_lt y8584
            refine g_mmax hk (List.mem_cons_of_mem _ (List.mem_append_left _ (List.mem_of_getElem? (i := 35) rfl))) (List.mem_cons_of_mem _ (List.mem_append_left _ (List.mem_of_getElem? (i := 36) rfl))) (List.mem_cons_of_mem _ (List.mem_append_left _ (List.mem_of_getElem? (i := 37) rfl))) (List.mem_cons_of_mem _ (List.mem_append_left _ (List.mem_of_getElem? (i := 38) rfl))) (Nat.le_of_ble_eq_true rfl) (Nat.le_of_ble_eq_true rfl) (Nat.le_of_ble_eq_true rfl) (Nat.le_of_ble_eq_true rfl) dX1_slackSum_85 ?_
            refine g_topi (fun y8588 ey8588 => ?_)
            have hy8588 := i32_max ey8588
            have b8589l := Int32.le_toInt y8588
            have b8589h := Int32.toInt_lt y8588
            have b8590l := Int32.le_toInt y8583
            have b8590h := Int32.toInt_lt y8583
            refine g_mmax hk (List.mem_cons_of_mem _ (List.mem_append_left _ (List.mem_of_getElem? (i := 35) rfl))) (List.mem_cons_of_mem _ (List.mem_append_left _ (List.mem_of_getElem? (i := 36) rfl))) (List.mem_cons_of_mem _ (List.mem_append_left _ (List.mem_of_getElem? (i := 37) rfl))) (List.mem_cons_of_mem _ (List.mem_append_left _ (List.mem_of_getElem? (i := 38) rfl))) (Nat.le_of_ble_eq_true rfl) (Nat.le_of_ble_eq_true rfl) (Nat.le_of_ble_eq_true rfl) (Nat.le_of_ble_eq_true rfl) dX1_slackSum_88 ?_
            refine g_topi (fun y8591 ey8591 => ?_)
            have hy8591 := i32_max ey8591
            refine g_istore (lv' := [(5, .int y8591), (4, .ref (q 38)), (3, .int x8273), (2, .int x8274), (0, .ref (q 43)), (1, .int z1)]) hk dX1_slackSum_91 (by decide) rfl ?_
            refine g_iload_n hk dX1_slackSum_93 rfl ?_
            refine g_aload hk dX1_slackSum_94 rfl ?_
            refine g_callV (n := 0) hk (k232_X2_wholeDistance l D zt q d I8582 A8582  hV8582) (SP.same _) (fun _ h => h) (gi_V (List.mem_cons_of_mem _ (List.mem_append_left _ (List.mem_of_getElem? (i := 39) rfl))) (List.mem_cons_of_mem _ (List.mem_append_left _ (List.mem_of_getElem? (i := 40) rfl))) (List.mem_cons_of_mem _ (List.mem_append_left _ (List.mem_of_getElem? (i := 41) rfl))) (List.mem_cons_of_mem _ (List.mem_append_left _ (List.mem_of_getElem? (i := 28) rfl))) (gi_sub (fun w h => (List.mem_cons_of_mem _ (List.mem_append_right _ (List.mem_append_right _ (List.mem_append_right _ (List.mem_append_right _ (List.mem_append_right _ (List.mem_append_right _ (List.mem_append_right _ (List.mem_append_right _ (List.mem_append_right _ (List.mem_append_right _ (List.mem_append_right _ (List.mem_append_right _ (List.mem_append_left _ h))))))))))))))) zg_k232_X2_wholeDistance)) rfl rfl rfl (by decide +kernel) ⟨Nat.le_of_ble_eq_true rfl, Nat.le_of_ble_eq_true rfl⟩ 38 rfl rfl rfl rfl (Nat.le_of_ble_eq_true rfl) ⟨Nat.le_of_ble_eq_true rfl, Nat.le_of_ble_eq_true rfl⟩ dX1_slackSum_96 (fun v ty' w' hp hk' => ?_)
            obtain ⟨I8593, A8593, hI8593, hA8593, hV8593, y8592, rfl, rfl⟩ := hp
            show GW κ 6 0 0 (wX q d I8593 A8593) 99 [(5, .int y8591), (4, .ref (q 38)), (3, .int x8273), (2, .int x8274), (0, .ref (q 43)), (1, .int z1)] [.int y8592, .int x8274]
            refine g_iload hk dX1_slackSum_99 rfl ?_
            have b8594l := Int32.le_toInt y8592
            have b8594h := Int32.toInt_lt y8592
            have b8595l := Int32.le_toInt y8591
            have b8595h := Int32.toInt_lt y8591
            refine g_isub hk dX1_slackSum_101 ?_
            refine g_topi (fun y8596 ey8596 => ?_)
            have hy8596 := i32_sub0 ey8596
            have b8597l := Int32.le_toInt x8274
            have b8597h := Int32.toInt_lt x8274
            have b8598l := Int32.le_toInt y8596
            have b8598h := Int32.toInt_lt y8596
            refine g_iadd hk dX1_slackSum_102 ?_
            refine g_topi (fun y8599 ey8599 => ?_)
            refine g_istore_n (lv' := [(2, .int y8599), (5, .int y8591), (4, .ref (q 38)), (3, .int x8273), (0, .ref (q 43)), (1, .int z1)]) hk dX1_slackSum_103 (by decide) rfl ?_
            obtain ⟨y8600, ey8600⟩ : ∃ y : Int32, y = x8273 + Int32.ofInt 1 := ⟨_, rfl⟩
            have hy8600 : y8600.toInt = x8273.toInt + 1 := i32_add ey8600 rfl (by decide) (by omega) (by omega)
            refine g_iinc (v := y8600) (lv' := [(3, .int y8600), (2, .int y8599), (5, .int y8591), (4, .ref (q 38)), (0, .ref (q 43)), (1, .int z1)]) hk 3 dX1_slackSum_104 rfl ey8600.symm (by decide) rfl ?_
            refine g_goto (tgt := 23) hk dX1_slackSum_107 (by decide) ?_
            exact g_lv (List.forall_mem_cons.mpr ⟨List.mem_of_getElem? (i := 0) rfl, (List.forall_mem_cons.mpr ⟨List.mem_of_getElem? (i := 1) rfl, (List.forall_mem_cons.mpr ⟨List.mem_of_getElem? (i := 4) rfl, (List.forall_mem_cons.mpr ⟨List.mem_of_getElem? (i := 5) rfl, (fun _ h => absurd h List.not_mem_nil)⟩)⟩)⟩)⟩) (ih8558 y8600 y8599 I8593 A8593 (show Md [33, 34] I8272 I8593 from Md.tr hI8277 (show Md [33, 34] I8277 I8593 from (Md.tr (Md.tr Md.rf hI8582 rfl) hI8593 rfl)) rfl) (show Md [22, 23] A8272 A8593 from Md.tr hA8277 (show Md [22, 23] A8277 A8593 from (Md.tr (Md.tr Md.rf hA8582 rfl) hA8593 rfl)) rfl) hV8593 (by omega) (by omega) (by omega) (by omega))
        · skip
          show GW κ 6 0 0 (wX q d I8277 A8277) 47 [(3, .int x8273), (2, .int x8274), (0, .ref (q 43)), (1, .int z1)] [.int y8569, .int x8273, .ref (q 13)]
          refine g_callV (n := 2) hk (k207_X6_hasWindow l D zt q d I8277 A8277 x8273 y8569 hV8277) (SP.same _) (fun _ h => h) (gi_V (List.mem_cons_of_mem _ (List.mem_append_left _ (List.mem_of_getElem? (i := 17) rfl))) (List.mem_cons_of_mem _ (List.mem_append_left _ (List.mem_of_getElem? (i := 18) rfl))) (List.mem_cons_of_mem _ (List.mem_append_left _ (List.mem_of_getElem? (i := 19) rfl))) (List.mem_cons_of_mem _ (List.mem_append_left _ (List.mem_of_getElem? (i := 20) rfl))) (gi_sub (fun w h => (List.mem_cons_of_mem _ (List.mem_append_right _ (List.mem_append_right _ (List.mem_append_right _ (List.mem_append_right _ (List.mem_append_right _ (List.mem_append_right _ (List.mem_append_right _ (List.mem_append_left _ h)))))))))) zg_k207_X6_hasWindow)) rfl rfl rfl (by decide +kernel) ⟨Nat.le_of_ble_eq_true rfl, Nat.le_of_ble_eq_true rfl⟩ 13 rfl rfl rfl rfl (Nat.le_of_ble_eq_true rfl) ⟨Nat.le_of_ble_eq_true rfl, Nat.le_of_ble_eq_true rfl⟩ dX1_slackSum_47 (fun v ty' w' hp hk' => ?_)
          rcases hp with ⟨rfl, rfl⟩ | ⟨c8602, c8603, c8604, c8605, c8606, c8607, rfl, rfl⟩
          · skip
            show GW κ 6 0 0 (wX q d I8277 A8277) 50 [(3, .int x8273), (2, .int x8274), (0, .ref (q 43)), (1, .int z1)] [.int 0]
            refine g_if_eq (tgt := 104) (a := 0) hk dX1_slackSum_50 (by decide) rfl (fun _ => ?_) (fun z9 => absurd (show (0 : Int) = (0 : Int) from by decide) z9)
            obtain ⟨y8609, ey8609⟩ : ∃ y : Int32, y = x8273 + Int32.ofInt 1 := ⟨_, rfl⟩
            have hy8609 : y8609.toInt = x8273.toInt + 1 := i32_add ey8609 rfl (by decide) (by omega) (by omega)
            refine g_iinc (v := y8609) (lv' := [(3, .int y8609), (2, .int x8274), (0, .ref (q 43)), (1, .int z1)]) hk 0 dX1_slackSum_104 rfl ey8609.symm (by decide) rfl ?_
            refine g_goto (tgt := 23) hk dX1_slackSum_107 (by decide) ?_
            exact g_lv (List.forall_mem_cons.mpr ⟨List.mem_of_getElem? (i := 0) rfl, (List.forall_mem_cons.mpr ⟨List.mem_of_getElem? (i := 1) rfl, (List.forall_mem_cons.mpr ⟨List.mem_of_getElem? (i := 2) rfl, (List.forall_mem_cons.mpr ⟨List.mem_of_getElem? (i := 3) rfl, (fun _ h => absurd h List.not_mem_nil)⟩)⟩)⟩)⟩) (ih8558 y8609 x8274 I8277 A8277 (show Md [33, 34] I8272 I8277 from Md.tr hI8277 (show Md [33, 34] I8277 I8277 from Md.rf) rfl) (show Md [22, 23] A8272 A8277 from Md.tr hA8277 (show Md [22, 23] A8277 A8277 from Md.rf) rfl) hV8277 (by omega) (by omega) (by omega) (by omega))
          · skip
            show GW κ 6 0 0 (wX q d I8277 A8277) 50 [(3, .int x8273), (2, .int x8274), (0, .ref (q 43)), (1, .int z1)] [.int 1]
            refine g_if_eq (tgt := 104) (a := 1) hk dX1_slackSum_50 (by decide) rfl (fun z9 => absurd z9 (show ¬ ((1 : Int) = (0 : Int)) from by decide)) (fun _ => ?_)
            refine g_aload_n hk dX1_slackSum_53 rfl ?_
            refine gX_r43_0 hk hin1 (List.mem_cons_of_mem _ (List.mem_append_left _ (List.mem_of_getElem? (i := 0) rfl))) dX1_slackSum_54 ?_
            refine g_iload_n hk dX1_slackSum_57 rfl ?_
            refine g_callV (n := 1) hk (k226_X0_laySecondWindow l D zt q d I8277 A8277 x8273 hV8277) (SP.same _) (fun _ h => h) (gi_V (List.mem_cons_of_mem _ (List.mem_append_left _ (List.mem_of_getElem? (i := 21) rfl))) (List.mem_cons_of_mem _ (List.mem_append_left _ (List.mem_of_getElem? (i := 22) rfl))) (List.mem_cons_of_mem _ (List.mem_append_left _ (List.mem_of_getElem? (i := 23) rfl))) (List.mem_cons_of_mem _ (List.mem_append_left _ (List.mem_of_getElem? (i := 9) rfl))) (gi_sub (fun w h => (List.mem_cons_of_mem _ (List.mem_append_right _ (List.mem_append_right _ (List.mem_append_right _ (List.mem_append_right _ (List.mem_append_right _ (List.mem_append_right _ (List.mem_append_right _ (List.mem_append_right _ (List.mem_append_left _ h))))))))))) zg_k226_X0_laySecondWindow)) rfl rfl rfl (by decide +kernel) ⟨Nat.le_of_ble_eq_true rfl, Nat.le_of_ble_eq_true rfl⟩ 37 rfl rfl rfl rfl (Nat.le_of_ble_eq_true rfl) ⟨Nat.le_of_ble_eq_true rfl, Nat.le_of_ble_eq_true rfl⟩ dX1_slackSum_58 (fun v ty' w' hp hk' => ?_)
            obtain ⟨I8611, A8611, hI8611, hA8611, hV8611, rfl, rfl⟩ := hp
            show GW κ 6 0 0 (wX q d I8611 A8611) 61 [(3, .int x8273), (2, .int x8274), (0, .ref (q 43)), (1, .int z1)] []
            refine g_aload_n hk dX1_slackSum_61 rfl ?_
            refine gX_r43_0 hk hin1 (List.mem_cons_of_mem _ (List.mem_append_left _ (List.mem_of_getElem? (i := 0) rfl))) dX1_slackSum_62 ?_
            refine gX_r37_3 hk hin0 (List.mem_cons_of_mem _ (List.mem_append_left _ (List.mem_of_getElem? (i := 24) rfl))) dX1_slackSum_65 ?_
            refine g_astore (lv' := [(4, .ref (q 38)), (3, .int x8273), (2, .int x8274), (0, .ref (q 43)), (1, .int z1)]) hk dX1_slackSum_68 (by decide) rfl ?_
            refine g_aload hk dX1_slackSum_70 rfl ?_
            refine g_callV (n := 0) hk (k239_X2_endsBound l D zt q d I8611 A8611  hV8611) (SP.same _) (fun _ h => h) (gi_V (List.mem_cons_of_mem _ (List.mem_append_left _ (List.mem_of_getElem? (i := 25) rfl))) (List.mem_cons_of_mem _ (List.mem_append_left _ (List.mem_of_getElem? (i := 26) rfl))) (List.mem_cons_of_mem _ (List.mem_append_left _ (List.mem_of_getElem? (i := 27) rfl))) (List.mem_cons_of_mem _ (List.mem_append_left _ (List.mem_of_getElem? (i := 28) rfl))) (gi_sub (fun w h => (List.mem_cons_of_mem _ (List.mem_append_right _ (List.mem_append_right _ (List.mem_append_right _ (List.mem_append_right _ (List.mem_append_right _ (List.mem_append_right _ (List.mem_append_right _ (List.mem_append_right _ (List.mem_append_right _ (List.mem_append_left _ h)))))))))))) zg_k239_X2_endsBound)) rfl rfl rfl (by decide +kernel) ⟨Nat.le_of_ble_eq_true rfl, Nat.le_of_ble_eq_true rfl⟩ 38 rfl rfl rfl rfl (Nat.le_of_ble_eq_true rfl) ⟨Nat.le_of_ble_eq_true rfl, Nat.le_of_ble_eq_true rfl⟩ dX1_slackSum_72 (fun v ty' w' hp hk' => ?_)
            obtain ⟨y8612, rfl, rfl⟩ := hp
            show GW κ 6 0 0 (wX q d I8611 A8611) 75 [(4, .ref (q 38)), (3, .int x8273), (2, .int x8274), (0, .ref (q 43)), (1, .int z1)] [.int y8612]
            refine g_aload hk dX1_slackSum_75 rfl ?_
            refine g_callV (n := 0) hk (k240_X2_overBound l D zt q d I8611 A8611  hV8611) (SP.same _) (fun _ h => h) (gi_V (List.mem_cons_of_mem _ (List.mem_append_left _ (List.mem_of_getElem? (i := 29) rfl))) (List.mem_cons_of_mem _ (List.mem_append_left _ (List.mem_of_getElem? (i := 30) rfl))) (List.mem_cons_of_mem _ (List.mem_append_left _ (List.mem_of_getElem? (i := 31) rfl))) (List.mem_cons_of_mem _ (List.mem_append_left _ (List.mem_of_getElem? (i := 28) rfl))) (gi_sub (fun w h => (List.mem_cons_of_mem _ (List.mem_append_right _ (List.mem_append_right _ (List.mem_append_right _ (List.mem_append_right _ (List.mem_append_right _ (List.mem_append_right _ (List.mem_append_right _ (List.mem_append_right _ (List.mem_append_right _ (List.mem_append_right _ (List.mem_append_left _ h))))))))))))) zg_k240_X2_overBound)) rfl rfl rfl (by decide +kernel) ⟨Nat.le_of_ble_eq_true rfl, Nat.le_of_ble_eq_true rfl⟩ 38 rfl rfl rfl rfl (Nat.le_of_ble_eq_true rfl) ⟨Nat.le_of_ble_eq_true rfl, Nat.le_of_ble_eq_true rfl⟩ dX1_slackSum_77 (fun v ty' w' hp hk' => ?_)
            obtain ⟨y8613, rfl, rfl⟩ := hp
            show GW κ 6 0 0 (wX q d I8611 A8611) 80 [(4, .ref (q 38)), (3, .int x8273), (2, .int x8274), (0, .ref (q 43)), (1, .int z1)] [.int y8613, .int y8612]
            refine g_aload hk dX1_slackSum_80 rfl ?_
            refine g_callV (n := 0) hk (k243_X2_backBound l D zt q d I8611 A8611  hV8611) (SP.same _) (fun _ h => h) (gi_V (List.mem_cons_of_mem _ (List.mem_append_left _ (List.mem_of_getElem? (i := 32) rfl))) (List.mem_cons_of_mem _ (List.mem_append_left _ (List.mem_of_getElem? (i := 33) rfl))) (List.mem_cons_of_mem _ (List.mem_append_left _ (List.mem_of_getElem? (i := 34) rfl))) (List.mem_cons_of_mem _ (List.mem_append_left _ (List.mem_of_getElem? (i := 28) rfl))) (gi_sub (fun w h => (List.mem_cons_of_mem _ (List.mem_append_right _ (List.mem_append_right _ (List.mem_append_right _ (List.mem_append_right _ (List.mem_append_right _ (List.mem_append_right _ (List.mem_append_right _ (List.mem_append_right _ (List.mem_append_right _ (List.mem_append_right _ (List.mem_append_right _ (List.mem_append_left _ h)))))))))))))) zg_k243_X2_backBound)) rfl rfl rfl (by decide +kernel) ⟨Nat.le_of_ble_eq_true rfl, Nat.le_of_ble_eq_true rfl⟩ 38 rfl rfl rfl rfl (Nat.le_of_ble_eq_true rfl) ⟨Nat.le_of_ble_eq_true rfl, Nat.le_of_ble_eq_true rfl⟩ dX1_slackSum_82 (fun v ty' w' hp hk' => ?_)
            obtain ⟨y8614, rfl, rfl⟩ := hp
            show GW κ 6 0 0 (wX q d I8611 A8611) 85 [(4, .ref (q 38)), (3, .int x8273), (2, .int x8274), (0, .ref (q 43)), (1, .int z1)] [.int y8614, .int y8613, .int y8612]
            have b8615l := Int32.le_toInt y8614
            have b8615h := Int32.toInt_lt y8614
            have b8616l := Int32.le_toInt y8613
            have b8616h := Int32.toInt_lt y8613
            refine g_mmax hk (List.mem_cons_of_mem _ (List.mem_append_left _ (List.mem_of_getElem? (i := 35) rfl))) (List.mem_cons_of_mem _ (List.mem_append_left _ (List.mem_of_getElem? (i := 36) rfl))) (List.mem_cons_of_mem _ (List.mem_append_left _ (List.mem_of_getElem? (i := 37) rfl))) (List.mem_cons_of_mem _ (List.mem_append_left _ (List.mem_of_getElem? (i := 38) rfl))) (Nat.le_of_ble_eq_true rfl) (Nat.le_of_ble_eq_true rfl) (Nat.le_of_ble_eq_true rfl) (Nat.le_of_ble_eq_true rfl) dX1_slackSum_85 ?_
            refine g_topi (fun y8617 ey8617 => ?_)
            have hy8617 := i32_max ey8617
            have b8618l := Int32.le_toInt y8617
            have b8618h := Int32.toInt_lt y8617
            have b8619l := Int32.le_toInt y8612
            have b8619h := Int32.toInt_lt y8612
            refine g_mmax hk (List.mem_cons_of_mem _ (List.mem_append_left _ (List.mem_of_getElem? (i := 35) rfl))) (List.mem_cons_of_mem _ (List.mem_append_left _ (List.mem_of_getElem? (i := 36) rfl))) (List.mem_cons_of_mem _ (List.mem_append_left _ (List.mem_of_getElem? (i := 37) rfl))) (List.mem_cons_of_mem _ (List.mem_append_left _ (List.mem_of_getElem? (i := 38) rfl))) (Nat.le_of_ble_eq_true rfl) (Nat.le_of_ble_eq_true rfl) (Nat.le_of_ble_eq_true rfl) (Nat.le_of_ble_eq_true rfl) dX1_slackSum_88 ?_
            refine g_topi (fun y8620 ey8620 => ?_)
            have hy8620 := i32_max ey8620
            refine g_istore (lv' := [(5, .int y8620), (4, .ref (q 38)), (3, .int x8273), (2, .int x8274), (0, .ref (q 43)), (1, .int z1)]) hk dX1_slackSum_91 (by decide) rfl ?_
            refine g_iload_n hk dX1_slackSum_93 rfl ?_
            refine g_aload hk dX1_slackSum_94 rfl ?_
            refine g_callV (n := 0) hk (k232_X2_wholeDistance l D zt q d I8611 A8611  hV8611) (SP.same _) (fun _ h => h) (gi_V (List.mem_cons_of_mem _ (List.mem_append_left _ (List.mem_of_getElem? (i := 39) rfl))) (List.mem_cons_of_mem _ (List.mem_append_left _ (List.mem_of_getElem? (i := 40) rfl))) (List.mem_cons_of_mem _ (List.mem_append_left _ (List.mem_of_getElem? (i := 41) rfl))) (List.mem_cons_of_mem _ (List.mem_append_left _ (List.mem_of_getElem? (i := 28) rfl))) (gi_sub (fun w h => (List.mem_cons_of_mem _ (List.mem_append_right _ (List.mem_append_right _ (List.mem_append_right _ (List.mem_append_right _ (List.mem_append_right _ (List.mem_append_right _ (List.mem_append_right _ (List.mem_append_right _ (List.mem_append_right _ (List.mem_append_right _ (List.mem_append_right _ (List.mem_append_right _ (List.mem_append_left _ h))))))))))))))) zg_k232_X2_wholeDistance)) rfl rfl rfl (by decide +kernel) ⟨Nat.le_of_ble_eq_true rfl, Nat.le_of_ble_eq_true rfl⟩ 38 rfl rfl rfl rfl (Nat.le_of_ble_eq_true rfl) ⟨Nat.le_of_ble_eq_true rfl, Nat.le_of_ble_eq_true rfl⟩ dX1_slackSum_96 (fun v ty' w' hp hk' => ?_)
            obtain ⟨I8622, A8622, hI8622, hA8622, hV8622, y8621, rfl, rfl⟩ := hp
            show GW κ 6 0 0 (wX q d I8622 A8622) 99 [(5, .int y8620), (4, .ref (q 38)), (3, .int x8273), (2, .int x8274), (0, .ref (q 43)), (1, .int z1)] [.int y8621, .int x8274]
            refine g_iload hk dX1_slackSum_99 rfl ?_
            have b8623l := Int32.le_toInt y8621
            have b8623h := Int32.toInt_lt y8621
            have b8624l := Int32.le_toInt y8620
            have b8624h := Int32.toInt_lt y8620
            refine g_isub hk dX1_slackSum_101 ?_
            refine g_topi (fun y8625 ey8625 => ?_)
            have hy8625 := i32_sub0 ey8625
            have b8626l := Int32.le_toInt x8274
            have b8626h := Int32.toInt_lt x8274
            have b8627l := Int32.le_toInt y8625
            have b8627h := Int32.toInt_lt y8625
            refine g_iadd hk dX1_slackSum_102 ?_
            refine g_topi (fun y8628 ey8628 => ?_)
            refine g_istore_n (lv' := [(2, .int y8628), (5, .int y8620), (4, .ref (q 38)), (3, .int x8273), (0, .ref (q 43)), (1, .int z1)]) hk dX1_slackSum_103 (by decide) rfl ?_
            obtain ⟨y8629, ey8629⟩ : ∃ y : Int32, y = x8273 + Int32.ofInt 1 := ⟨_, rfl⟩
            have hy8629 : y8629.toInt = x8273.toInt + 1 := i32_add ey8629 rfl (by decide) (by omega) (by omega)
            refine g_iinc (v := y8629) (lv' := [(3, .int y8629), (2, .int y8628), (5, .int y8620), (4, .ref (q 38)), (0, .ref (q 43)), (1, .int z1)]) hk 3 dX1_slackSum_104 rfl ey8629.symm (by decide) rfl ?_
            refine g_goto (tgt := 23) hk dX1_slackSum_107 (by decide) ?_
            exact g_lv (List.forall_mem_cons.mpr ⟨List.mem_of_getElem? (i := 0) rfl, (List.forall_mem_cons.mpr ⟨List.mem_of_getElem? (i := 1) rfl, (List.forall_mem_cons.mpr ⟨List.mem_of_getElem? (i := 4) rfl, (List.forall_mem_cons.mpr ⟨List.mem_of_getElem? (i := 5) rfl, (fun _ h => absurd h List.not_mem_nil)⟩)⟩)⟩)⟩) (ih8558 y8629 y8628 I8622 A8622 (show Md [33, 34] I8272 I8622 from Md.tr hI8277 (show Md [33, 34] I8277 I8622 from (Md.tr (Md.tr Md.rf hI8611 rfl) hI8622 rfl)) rfl) (show Md [22, 23] A8272 A8622 from Md.tr hA8277 (show Md [22, 23] A8277 A8622 from (Md.tr (Md.tr Md.rf hA8611 rfl) hA8622 rfl)) rfl) hV8622 (by omega) (by omega) (by omega) (by omega))
  obtain ⟨n8630, n8630a, n8630b⟩ : ∃ n : Nat, 161 - 0 < (n : Int) ∧ 0 < n := ⟨((161 - 0 : Int)).toNat + 1, by omega, by omega⟩
  exact lp8555 n8630 0 0 I8272 A8272 Md.rf Md.rf hV8272 (by omega) (by omega) n8630a n8630b
def wo_k287_X11_slack : List Cond := [Cond.fieldLink RX11 35 "WarpDesk" "queries" "LWarpDesk$Queries;", Cond.methodLink RX11 251 yX4_has, Cond.instanceMethod yX4_has, Cond.selects RX4 yX4_has yX4_has, Cond.initialized RX4, Cond.fieldLink RX11 74 "WarpDesk" "finder" "LWarpDesk$Finder;", Cond.methodLink RX11 317 yX1_slackSum, Cond.instanceMethod yX1_slackSum, Cond.selects RX1 yX1_slackSum yX1_slackSum, Cond.initialized RX1]
def wz_k287_X11_slack : List Cond := .code yX11_slack cX11_slack 2 (some .int) :: (wo_k287_X11_slack ++ (wsX110 ++ (wz_k168_X4_has ++ (wz_k288_X1_slackSum ++ ([] : List Cond)))))
theorem zg_k287_X11_slack : ∀ w ∈ wz_k287_X11_slack, goodWord w = true := zg_cons rfl (zg_app (by decide +kernel) (zg_app zgU_wsX110 (zg_app zg_k168_X4_has (zg_app zg_k288_X1_slackSum zg_nil))))
theorem zi_k287_X11_slack : ∀ w ∈ wz_k287_X11_slack, w ∈ lw_tbl := zi_cons zw_1230 (zi_app (zi_cons zw_490 (zi_cons zw_1086 (zi_cons zw_747 (zi_cons zw_748 (zi_cons zw_108 (zi_cons zw_495 (zi_cons zw_1231 (zi_cons zw_1232 (zi_cons zw_1233 (zi_cons zw_113 zi_nil)))))))))) (zi_app inX11 (zi_app zi_k168_X4_has (zi_app zi_k288_X1_slackSum zi_nil))))
set_option maxHeartbeats 4000000 in
set_option maxRecDepth 100000 in
theorem k287_X11_slack (l : Launch) (D : va_G) (zt : Nat × Nat × Nat × (Nat → Nat) × (Nat → Nat)) (q : Nat → Nat) (d : Nat → ClassId) (I : Nat → Int32) (A : Nat → Nat → Int32) (z1 : Int32) (hIv : IvX I A) : GM l D zt (tyX d) yX11_slack wz_k287_X11_slack ({ frames := 6, cells := 0, slots := 0, locals := 134 } : Room) [.ref (q 0), .int z1] (wX q d I A) (fun v _ w' => ∃ (I' : Nat → Int32) (A' : Nat → Nat → Int32), Md [28, 30, 31, 32, 33, 34] I I' ∧ Md [21, 22, 23] A A' ∧ IvX I' A' ∧ ∃ y0 : Int32, v = some (.int y0) ∧ w' = wX q d I' A') 0 0 := by
  refine GM.of (cc := cX11_slack) (maxL := 2) (ret := (some .int)) (own := RX11) (lv := [(0, .ref (q 0)), (1, .int z1)]) (by decide) rfl rfl (Nat.le_of_ble_eq_true rfl) rfl (fun κ sz hk hR hN => ?_)
  have hin11 : ∀ w ∈ u_ws RX11 TX11 10, w ∈ wz_k287_X11_slack := fun w h => (List.mem_cons_of_mem _ (List.mem_append_right _ (List.mem_append_left _ h)))
  refine g_aload_n hk dX11_slack_0 rfl ?_
  refine gX_r0_3 hk hin11 (List.mem_cons_of_mem _ (List.mem_append_left _ (List.mem_of_getElem? (i := 0) rfl))) dX11_slack_1 ?_
  refine g_iload_n hk dX11_slack_4 rfl ?_
  refine g_callV (n := 1) hk (k168_X4_has l D zt q d I A z1 hIv) (SP.same _) (fun _ h => h) (gi_V (List.mem_cons_of_mem _ (List.mem_append_left _ (List.mem_of_getElem? (i := 1) rfl))) (List.mem_cons_of_mem _ (List.mem_append_left _ (List.mem_of_getElem? (i := 2) rfl))) (List.mem_cons_of_mem _ (List.mem_append_left _ (List.mem_of_getElem? (i := 3) rfl))) (List.mem_cons_of_mem _ (List.mem_append_left _ (List.mem_of_getElem? (i := 4) rfl))) (gi_sub (fun w h => (List.mem_cons_of_mem _ (List.mem_append_right _ (List.mem_append_right _ (List.mem_append_left _ h))))) zg_k168_X4_has)) rfl rfl rfl (by decide +kernel) ⟨Nat.le_of_ble_eq_true rfl, Nat.le_of_ble_eq_true rfl⟩ 15 rfl rfl rfl rfl (Nat.le_of_ble_eq_true rfl) ⟨Nat.le_of_ble_eq_true rfl, Nat.le_of_ble_eq_true rfl⟩ dX11_slack_5 (fun v ty' w' hp hk' => ?_)
  rcases hp with ⟨rfl, rfl⟩ | ⟨c8264, c8265, c8266, c8267, rfl, rfl⟩
  · skip
    show GW κ 2 0 0 (wX q d I A) 8 [(0, .ref (q 0)), (1, .int z1)] [.int 0]
    refine g_if_eq (tgt := 22) (a := 0) hk dX11_slack_8 (by decide) rfl (fun _ => ?_) (fun z9 => absurd (show (0 : Int) = (0 : Int) from by decide) z9)
    refine g_iconst (v := (-1)) hk dX11_slack_22 (by decide) ?_
    exact g_iret hk hR rfl ⟨I, A, (show Md [28, 30, 31, 32, 33, 34] I I from Md.rf), (show Md [21, 22, 23] A A from Md.rf), hIv, (-1), rfl, rfl⟩ dX11_slack_23
  · skip
    show GW κ 2 0 0 (wX q d I A) 8 [(0, .ref (q 0)), (1, .int z1)] [.int 1]
    refine g_if_eq (tgt := 22) (a := 1) hk dX11_slack_8 (by decide) rfl (fun z9 => absurd z9 (show ¬ ((1 : Int) = (0 : Int)) from by decide)) (fun _ => ?_)
    refine g_aload_n hk dX11_slack_11 rfl ?_
    refine gX_r0_8 hk hin11 (List.mem_cons_of_mem _ (List.mem_append_left _ (List.mem_of_getElem? (i := 5) rfl))) dX11_slack_12 ?_
    refine g_iload_n hk dX11_slack_15 rfl ?_
    refine g_callV (n := 1) hk (k288_X1_slackSum l D zt q d I A z1 hIv) (SP.same _) (fun _ h => h) (gi_V (List.mem_cons_of_mem _ (List.mem_append_left _ (List.mem_of_getElem? (i := 6) rfl))) (List.mem_cons_of_mem _ (List.mem_append_left _ (List.mem_of_getElem? (i := 7) rfl))) (List.mem_cons_of_mem _ (List.mem_append_left _ (List.mem_of_getElem? (i := 8) rfl))) (List.mem_cons_of_mem _ (List.mem_append_left _ (List.mem_of_getElem? (i := 9) rfl))) (gi_sub (fun w h => (List.mem_cons_of_mem _ (List.mem_append_right _ (List.mem_append_right _ (List.mem_append_right _ (List.mem_append_left _ h)))))) zg_k288_X1_slackSum)) rfl rfl rfl (by decide +kernel) ⟨Nat.le_of_ble_eq_true rfl, Nat.le_of_ble_eq_true rfl⟩ 43 rfl rfl rfl rfl (Nat.le_of_ble_eq_true rfl) ⟨Nat.le_of_ble_eq_true rfl, Nat.le_of_ble_eq_true rfl⟩ dX11_slack_16 (fun v ty' w' hp hk' => ?_)
    obtain ⟨I8632, A8632, hI8632, hA8632, hV8632, y8631, rfl, rfl⟩ := hp
    show GW κ 2 0 0 (wX q d I8632 A8632) 19 [(0, .ref (q 0)), (1, .int z1)] [.int y8631]
    refine g_goto (tgt := 23) hk dX11_slack_19 (by decide) ?_
    have b8633l := Int32.le_toInt y8631
    have b8633h := Int32.toInt_lt y8631
    exact g_iret hk hR rfl ⟨I8632, A8632, (show Md [28, 30, 31, 32, 33, 34] I I8632 from (Md.tr Md.rf hI8632 rfl)), (show Md [21, 22, 23] A A8632 from (Md.tr Md.rf hA8632 rfl)), hV8632, y8631, rfl, rfl⟩ dX11_slack_23
def wo_k290_X1_turnCount : List Cond := [Cond.fieldLink RX1 15 "WarpDesk$Finder" "distances" "[I"]
def wz_k290_X1_turnCount : List Cond := .code yX1_turnCount cX1_turnCount 6 (some .int) :: (wo_k290_X1_turnCount ++ (wsX10 ++ ([] : List Cond)))
theorem zg_k290_X1_turnCount : ∀ w ∈ wz_k290_X1_turnCount, goodWord w = true := zg_cons rfl (zg_app (by decide +kernel) (zg_app zgU_wsX10 zg_nil))
theorem zi_k290_X1_turnCount : ∀ w ∈ wz_k290_X1_turnCount, w ∈ lw_tbl := zi_cons zw_1246 (zi_app (zi_cons zw_411 zi_nil) (zi_app inX1 zi_nil))
set_option maxHeartbeats 4000000 in
set_option maxRecDepth 100000 in
theorem k290_X1_turnCount (l : Launch) (D : va_G) (zt : Nat × Nat × Nat × (Nat → Nat) × (Nat → Nat)) (q : Nat → Nat) (d : Nat → ClassId) (I : Nat → Int32) (A : Nat → Nat → Int32) (hIv : IvX I A) : GM l D zt (tyX d) yX1_turnCount wz_k290_X1_turnCount ({ frames := 0, cells := 0, slots := 0, locals := 0 } : Room) [.ref (q 43)] (wX q d I A) (fun v _ w' => ∃ y0 : Int32, v = some (.int y0) ∧ w' = wX q d I A) 0 0 := by
  refine GM.of (cc := cX1_turnCount) (maxL := 6) (ret := (some .int)) (own := RX1) (lv := [(0, .ref (q 43))]) (by decide) rfl rfl (Nat.le_of_ble_eq_true rfl) rfl (fun κ sz hk hR hN => ?_)
  have hin1 : ∀ w ∈ u_ws RX1 TX1 11, w ∈ wz_k290_X1_turnCount := fun w h => (List.mem_cons_of_mem _ (List.mem_append_right _ (List.mem_append_left _ h)))
  refine g_iconst (v := 0) hk dX1_turnCount_0 (by decide) ?_
  refine g_istore_n (lv' := [(1, .int 0), (0, .ref (q 43))]) hk dX1_turnCount_1 (by decide) rfl ?_
  refine g_iconst (v := (-1)) hk dX1_turnCount_2 (by decide) ?_
  refine g_istore_n (lv' := [(2, .int (-1)), (1, .int 0), (0, .ref (q 43))]) hk dX1_turnCount_3 (by decide) rfl ?_
  refine g_iconst (v := 0) hk dX1_turnCount_4 (by decide) ?_
  refine g_istore_n (lv' := [(3, .int 0), (2, .int (-1)), (1, .int 0), (0, .ref (q 43))]) hk dX1_turnCount_5 (by decide) rfl ?_
  refine g_iconst (v := 0) hk dX1_turnCount_6 (by decide) ?_
  refine g_istore (lv' := [(4, .int 0), (3, .int 0), (2, .int (-1)), (1, .int 0), (0, .ref (q 43))]) hk dX1_turnCount_7 (by decide) rfl ?_
  have lp8750 : ∀ (n8751 : Nat) (x8642 : Int32) (x8643 : Int32) (x8644 : Int32) (x8645 : Int32), (0 ≤ x8642.toInt) → (x8642.toInt ≤ 160) → (0 ≤ x8643.toInt) → (x8643.toInt ≤ 1) → ((-1) ≤ x8644.toInt) → (161 - x8642.toInt < (n8751 : Int)) → (0 < n8751) → GW κ 6 0 0 (wX q d I A) 9 [(4, .int x8642), (3, .int x8643), (2, .int x8644), (1, .int x8645), (0, .ref (q 43))] [] := by
    intro n8751
    induction n8751 with
    | zero =>
      intro x8642 x8643 x8644 x8645 h8745 h8746 h8747 h8748 h8749 m8752 m8752z
      exact absurd m8752z (Nat.lt_irrefl 0)
    | succ n8751 ih8753 =>
      intro x8642 x8643 x8644 x8645 h8745 h8746 h8747 h8748 h8749 m8752 m8752z
      refine g_iload hk dX1_turnCount_9 rfl ?_
      refine g_sipush (v := 160) hk dX1_turnCount_11 (by decide) ?_
      refine g_icmp_ge (tgt := 82) (a := x8642.toInt) (b := 160) hk dX1_turnCount_14 (by decide) rfl rfl (fun c8754 => ?_) (fun c8754 => ?_)
      · skip
        refine g_iload_n hk dX1_turnCount_82 rfl ?_
        have b8755l := Int32.le_toInt x8645
        have b8755h := Int32.toInt_lt x8645
        exact g_iret hk hR rfl ⟨x8645, rfl, rfl⟩ dX1_turnCount_83
      · skip
        refine g_aload_n hk dX1_turnCount_17 rfl ?_
        refine gX_r43_6 hk hin1 (List.mem_cons_of_mem _ (List.mem_append_left _ (List.mem_of_getElem? (i := 0) rfl))) dX1_turnCount_18 ?_
        refine g_iload hk dX1_turnCount_21 rfl ?_
        refine lX_26 (v := (A 26 x8642.toNatClampNeg)) hk (vp_in_iff.mpr ⟨by omega, by omega⟩) rfl dX1_turnCount_23 ?_
        refine g_istore (lv' := [(5, .int (A 26 x8642.toNatClampNeg)), (4, .int x8642), (3, .int x8643), (2, .int x8644), (1, .int x8645), (0, .ref (q 43))]) hk dX1_turnCount_24 (by decide) rfl ?_
        refine g_iload hk dX1_turnCount_26 rfl ?_
        have b8756l := Int32.le_toInt (A 26 x8642.toNatClampNeg)
        have b8756h := Int32.toInt_lt (A 26 x8642.toNatClampNeg)
        refine g_if_ge (tgt := 34) (a := (A 26 x8642.toNatClampNeg).toInt) hk dX1_turnCount_28 (by decide) rfl (fun c8757 => ?_) (fun c8757 => ?_)
        · skip
          refine g_iload_n hk dX1_turnCount_34 rfl ?_
          have b8758l := Int32.le_toInt x8644
          have b8758h := Int32.toInt_lt x8644
          refine g_if_lt (tgt := 49) (a := x8644.toInt) hk dX1_turnCount_35 (by decide) rfl (fun c8759 => ?_) (fun c8759 => ?_)
          · skip
            refine g_iload_n hk dX1_turnCount_49 rfl ?_
            refine g_if_lt (tgt := 73) (a := x8644.toInt) hk dX1_turnCount_50 (by decide) rfl (fun _ => ?_) (fun z9 => absurd (show x8644.toInt < 0 from by omega) z9)
            refine g_iload hk dX1_turnCount_73 rfl ?_
            refine g_istore_n (lv' := [(2, .int (A 26 x8642.toNatClampNeg)), (5, .int (A 26 x8642.toNatClampNeg)), (4, .int x8642), (3, .int x8643), (1, .int x8645), (0, .ref (q 43))]) hk dX1_turnCount_75 (by decide) rfl ?_
            obtain ⟨y8760, ey8760⟩ : ∃ y : Int32, y = x8642 + Int32.ofInt 1 := ⟨_, rfl⟩
            have hy8760 : y8760.toInt = x8642.toInt + 1 := i32_add ey8760 rfl (by decide) (by omega) (by omega)
            refine g_iinc (v := y8760) (lv' := [(4, .int y8760), (2, .int (A 26 x8642.toNatClampNeg)), (5, .int (A 26 x8642.toNatClampNeg)), (3, .int x8643), (1, .int x8645), (0, .ref (q 43))]) hk 2 dX1_turnCount_76 rfl ey8760.symm (by decide) rfl ?_
            refine g_goto (tgt := 9) hk dX1_turnCount_79 (by decide) ?_
            exact g_lv (List.forall_mem_cons.mpr ⟨List.mem_of_getElem? (i := 0) rfl, (List.forall_mem_cons.mpr ⟨List.mem_of_getElem? (i := 3) rfl, (List.forall_mem_cons.mpr ⟨List.mem_of_getElem? (i := 1) rfl, (List.forall_mem_cons.mpr ⟨List.mem_of_getElem? (i := 4) rfl, (List.forall_mem_cons.mpr ⟨List.mem_of_getElem? (i := 5) rfl, (fun _ h => absurd h List.not_mem_nil)⟩)⟩)⟩)⟩)⟩) (ih8753 y8760 x8643 (A 26 x8642.toNatClampNeg) x8645 (by omega) (by omega) (by omega) (by omega) (by omega) (by omega) (by omega))
          · skip
            refine g_iload hk dX1_turnCount_38 rfl ?_
            refine g_iload_n hk dX1_turnCount_40 rfl ?_
            refine g_icmp_ge (tgt := 49) (a := (A 26 x8642.toNatClampNeg).toInt) (b := x8644.toInt) hk dX1_turnCount_41 (by decide) rfl rfl (fun c8761 => ?_) (fun c8761 => ?_)
            · skip
              refine g_iload_n hk dX1_turnCount_49 rfl ?_
              refine g_if_lt (tgt := 73) (a := x8644.toInt) hk dX1_turnCount_50 (by decide) rfl (fun z9 => absurd z9 (show ¬ (x8644.toInt < 0) from by omega)) (fun _ => ?_)
              refine g_iload hk dX1_turnCount_53 rfl ?_
              refine g_iload_n hk dX1_turnCount_55 rfl ?_
              refine g_icmp_le (tgt := 73) (a := (A 26 x8642.toNatClampNeg).toInt) (b := x8644.toInt) hk dX1_turnCount_56 (by decide) rfl rfl (fun c8762 => ?_) (fun c8762 => ?_)
              · skip
                refine g_iload hk dX1_turnCount_73 rfl ?_
                refine g_istore_n (lv' := [(2, .int (A 26 x8642.toNatClampNeg)), (5, .int (A 26 x8642.toNatClampNeg)), (4, .int x8642), (3, .int x8643), (1, .int x8645), (0, .ref (q 43))]) hk dX1_turnCount_75 (by decide) rfl ?_
                obtain ⟨y8763, ey8763⟩ : ∃ y : Int32, y = x8642 + Int32.ofInt 1 := ⟨_, rfl⟩
                have hy8763 : y8763.toInt = x8642.toInt + 1 := i32_add ey8763 rfl (by decide) (by omega) (by omega)
                refine g_iinc (v := y8763) (lv' := [(4, .int y8763), (2, .int (A 26 x8642.toNatClampNeg)), (5, .int (A 26 x8642.toNatClampNeg)), (3, .int x8643), (1, .int x8645), (0, .ref (q 43))]) hk 2 dX1_turnCount_76 rfl ey8763.symm (by decide) rfl ?_
                refine g_goto (tgt := 9) hk dX1_turnCount_79 (by decide) ?_
                exact g_lv (List.forall_mem_cons.mpr ⟨List.mem_of_getElem? (i := 0) rfl, (List.forall_mem_cons.mpr ⟨List.mem_of_getElem? (i := 3) rfl, (List.forall_mem_cons.mpr ⟨List.mem_of_getElem? (i := 1) rfl, (List.forall_mem_cons.mpr ⟨List.mem_of_getElem? (i := 4) rfl, (List.forall_mem_cons.mpr ⟨List.mem_of_getElem? (i := 5) rfl, (fun _ h => absurd h List.not_mem_nil)⟩)⟩)⟩)⟩)⟩) (ih8753 y8763 x8643 (A 26 x8642.toNatClampNeg) x8645 (by omega) (by omega) (by omega) (by omega) (by omega) (by omega) (by omega))
              · skip
                refine g_iload_n hk dX1_turnCount_59 rfl ?_
                refine g_iload_n hk dX1_turnCount_60 rfl ?_
                refine g_if_eq (tgt := 68) (a := x8643.toInt) hk dX1_turnCount_61 (by decide) rfl (fun c8764 => ?_) (fun c8764 => ?_)
                · skip
                  refine g_iconst (v := 0) hk dX1_turnCount_68 (by decide) ?_
                  have b8765l := Int32.le_toInt x8645
                  have b8765h := Int32.toInt_lt x8645
                  refine g_iadd hk dX1_turnCount_69 ?_
                  refine g_topi (fun y8766 ey8766 => ?_)
                  have hy8766 : y8766.toInt = x8645.toInt + 0 := i32_add ey8766 rfl rfl (by omega) (by omega)
                  refine g_istore_n (lv' := [(1, .int y8766), (5, .int (A 26 x8642.toNatClampNeg)), (4, .int x8642), (3, .int x8643), (2, .int x8644), (0, .ref (q 43))]) hk dX1_turnCount_70 (by decide) rfl ?_
                  refine g_iconst (v := 0) hk dX1_turnCount_71 (by decide) ?_
                  refine g_istore_n (lv' := [(3, .int 0), (1, .int y8766), (5, .int (A 26 x8642.toNatClampNeg)), (4, .int x8642), (2, .int x8644), (0, .ref (q 43))]) hk dX1_turnCount_72 (by decide) rfl ?_
                  refine g_iload hk dX1_turnCount_73 rfl ?_
                  refine g_istore_n (lv' := [(2, .int (A 26 x8642.toNatClampNeg)), (3, .int 0), (1, .int y8766), (5, .int (A 26 x8642.toNatClampNeg)), (4, .int x8642), (0, .ref (q 43))]) hk dX1_turnCount_75 (by decide) rfl ?_
                  obtain ⟨y8767, ey8767⟩ : ∃ y : Int32, y = x8642 + Int32.ofInt 1 := ⟨_, rfl⟩
                  have hy8767 : y8767.toInt = x8642.toInt + 1 := i32_add ey8767 rfl (by decide) (by omega) (by omega)
                  refine g_iinc (v := y8767) (lv' := [(4, .int y8767), (2, .int (A 26 x8642.toNatClampNeg)), (3, .int 0), (1, .int y8766), (5, .int (A 26 x8642.toNatClampNeg)), (0, .ref (q 43))]) hk 4 dX1_turnCount_76 rfl ey8767.symm (by decide) rfl ?_
                  refine g_goto (tgt := 9) hk dX1_turnCount_79 (by decide) ?_
                  have k8768 : (0 : Int32).toInt = 0 := rfl
                  exact g_lv (List.forall_mem_cons.mpr ⟨List.mem_of_getElem? (i := 0) rfl, (List.forall_mem_cons.mpr ⟨List.mem_of_getElem? (i := 2) rfl, (List.forall_mem_cons.mpr ⟨List.mem_of_getElem? (i := 1) rfl, (List.forall_mem_cons.mpr ⟨List.mem_of_getElem? (i := 3) rfl, (List.forall_mem_cons.mpr ⟨List.mem_of_getElem? (i := 5) rfl, (fun _ h => absurd h List.not_mem_nil)⟩)⟩)⟩)⟩)⟩) (ih8753 y8767 0 (A 26 x8642.toNatClampNeg) y8766 (by omega) (by omega) (by omega) (by omega) (by omega) (by omega) (by omega))
                · skip
                  refine g_iconst (v := 1) hk dX1_turnCount_64 (by decide) ?_
                  refine g_goto (tgt := 69) hk dX1_turnCount_65 (by decide) ?_
                  have b8769l := Int32.le_toInt x8645
                  have b8769h := Int32.toInt_lt x8645
                  refine g_iadd hk dX1_turnCount_69 ?_
                  refine g_topi (fun y8770 ey8770 => ?_)
                  refine g_istore_n (lv' := [(1, .int y8770), (5, .int (A 26 x8642.toNatClampNeg)), (4, .int x8642), (3, .int x8643), (2, .int x8644), (0, .ref (q 43))]) hk dX1_turnCount_70 (by decide) rfl ?_
                  refine g_iconst (v := 0) hk dX1_turnCount_71 (by decide) ?_
                  refine g_istore_n (lv' := [(3, .int 0), (1, .int y8770), (5, .int (A 26 x8642.toNatClampNeg)), (4, .int x8642), (2, .int x8644), (0, .ref (q 43))]) hk dX1_turnCount_72 (by decide) rfl ?_
                  refine g_iload hk dX1_turnCount_73 rfl ?_
                  refine g_istore_n (lv' := [(2, .int (A 26 x8642.toNatClampNeg)), (3, .int 0), (1, .int y8770), (5, .int (A 26 x8642.toNatClampNeg)), (4, .int x8642), (0, .ref (q 43))]) hk dX1_turnCount_75 (by decide) rfl ?_
                  obtain ⟨y8771, ey8771⟩ : ∃ y : Int32, y = x8642 + Int32.ofInt 1 := ⟨_, rfl⟩
                  have hy8771 : y8771.toInt = x8642.toInt + 1 := i32_add ey8771 rfl (by decide) (by omega) (by omega)
                  refine g_iinc (v := y8771) (lv' := [(4, .int y8771), (2, .int (A 26 x8642.toNatClampNeg)), (3, .int 0), (1, .int y8770), (5, .int (A 26 x8642.toNatClampNeg)), (0, .ref (q 43))]) hk 4 dX1_turnCount_76 rfl ey8771.symm (by decide) rfl ?_
                  refine g_goto (tgt := 9) hk dX1_turnCount_79 (by decide) ?_
                  have k8772 : (0 : Int32).toInt = 0 := rfl
                  exact g_lv (List.forall_mem_cons.mpr ⟨List.mem_of_getElem? (i := 0) rfl, (List.forall_mem_cons.mpr ⟨List.mem_of_getElem? (i := 2) rfl, (List.forall_mem_cons.mpr ⟨List.mem_of_getElem? (i := 1) rfl, (List.forall_mem_cons.mpr ⟨List.mem_of_getElem? (i := 3) rfl, (List.forall_mem_cons.mpr ⟨List.mem_of_getElem? (i := 5) rfl, (fun _ h => absurd h List.not_mem_nil)⟩)⟩)⟩)⟩)⟩) (ih8753 y8771 0 (A 26 x8642.toNatClampNeg) y8770 (by omega) (by omega) (by omega) (by omega) (by omega) (by omega) (by omega))
            · skip
              refine g_iconst (v := 1) hk dX1_turnCount_44 (by decide) ?_
              refine g_istore_n (lv' := [(3, .int 1), (5, .int (A 26 x8642.toNatClampNeg)), (4, .int x8642), (2, .int x8644), (1, .int x8645), (0, .ref (q 43))]) hk dX1_turnCount_45 (by decide) rfl ?_
              refine g_goto (tgt := 73) hk dX1_turnCount_46 (by decide) ?_
              refine g_iload hk dX1_turnCount_73 rfl ?_
              refine g_istore_n (lv' := [(2, .int (A 26 x8642.toNatClampNeg)), (3, .int 1), (5, .int (A 26 x8642.toNatClampNeg)), (4, .int x8642), (1, .int x8645), (0, .ref (q 43))]) hk dX1_turnCount_75 (by decide) rfl ?_
              obtain ⟨y8773, ey8773⟩ : ∃ y : Int32, y = x8642 + Int32.ofInt 1 := ⟨_, rfl⟩
              have hy8773 : y8773.toInt = x8642.toInt + 1 := i32_add ey8773 rfl (by decide) (by omega) (by omega)
              refine g_iinc (v := y8773) (lv' := [(4, .int y8773), (2, .int (A 26 x8642.toNatClampNeg)), (3, .int 1), (5, .int (A 26 x8642.toNatClampNeg)), (1, .int x8645), (0, .ref (q 43))]) hk 3 dX1_turnCount_76 rfl ey8773.symm (by decide) rfl ?_
              refine g_goto (tgt := 9) hk dX1_turnCount_79 (by decide) ?_
              have k8774 : (1 : Int32).toInt = 1 := rfl
              exact g_lv (List.forall_mem_cons.mpr ⟨List.mem_of_getElem? (i := 0) rfl, (List.forall_mem_cons.mpr ⟨List.mem_of_getElem? (i := 2) rfl, (List.forall_mem_cons.mpr ⟨List.mem_of_getElem? (i := 1) rfl, (List.forall_mem_cons.mpr ⟨List.mem_of_getElem? (i := 4) rfl, (List.forall_mem_cons.mpr ⟨List.mem_of_getElem? (i := 5) rfl, (fun _ h => absurd h List.not_mem_nil)⟩)⟩)⟩)⟩)⟩) (ih8753 y8773 1 (A 26 x8642.toNatClampNeg) x8645 (by omega) (by omega) (by omega) (by omega) (by omega) (by omega) (by omega))
        · skip
          refine g_goto (tgt := 76) hk dX1_turnCount_31 (by decide) ?_
          obtain ⟨y8775, ey8775⟩ : ∃ y : Int32, y = x8642 + Int32.ofInt 1 := ⟨_, rfl⟩
          have hy8775 : y8775.toInt = x8642.toInt + 1 := i32_add ey8775 rfl (by decide) (by omega) (by omega)
          refine g_iinc (v := y8775) (lv' := [(4, .int y8775), (5, .int (A 26 x8642.toNatClampNeg)), (3, .int x8643), (2, .int x8644), (1, .int x8645), (0, .ref (q 43))]) hk 1 dX1_turnCount_76 rfl ey8775.symm (by decide) rfl ?_
          refine g_goto (tgt := 9) hk dX1_turnCount_79 (by decide) ?_
          exact g_lv (List.forall_mem_cons.mpr ⟨List.mem_of_getElem? (i := 0) rfl, (List.forall_mem_cons.mpr ⟨List.mem_of_getElem? (i := 2) rfl, (List.forall_mem_cons.mpr ⟨List.mem_of_getElem? (i := 3) rfl, (List.forall_mem_cons.mpr ⟨List.mem_of_getElem? (i := 4) rfl, (List.forall_mem_cons.mpr ⟨List.mem_of_getElem? (i := 5) rfl, (fun _ h => absurd h List.not_mem_nil)⟩)⟩)⟩)⟩)⟩) (ih8753 y8775 x8643 x8644 x8645 (by omega) (by omega) (by omega) (by omega) (by omega) (by omega) (by omega))
  have k8777 : (0 : Int32).toInt = 0 := rfl
  have k8778 : ((-1) : Int32).toInt = (-1) := rfl
  obtain ⟨n8776, n8776a, n8776b⟩ : ∃ n : Nat, 161 - 0 < (n : Int) ∧ 0 < n := ⟨((161 - 0 : Int)).toNat + 1, by omega, by omega⟩
  exact lp8750 n8776 0 0 (-1) 0 (by omega) (by omega) (by omega) (by omega) (by omega) n8776a n8776b
def wo_k289_X11_turns : List Cond := [Cond.fieldLink RX11 35 "WarpDesk" "queries" "LWarpDesk$Queries;", Cond.methodLink RX11 251 yX4_has, Cond.instanceMethod yX4_has, Cond.selects RX4 yX4_has yX4_has, Cond.initialized RX4, Cond.fieldLink RX11 74 "WarpDesk" "finder" "LWarpDesk$Finder;", Cond.methodLink RX11 305 yX1_scan, Cond.instanceMethod yX1_scan, Cond.selects RX1 yX1_scan yX1_scan, Cond.initialized RX1, Cond.methodLink RX11 320 yX1_turnCount, Cond.instanceMethod yX1_turnCount, Cond.selects RX1 yX1_turnCount yX1_turnCount]
def wz_k289_X11_turns : List Cond := .code yX11_turns cX11_turns 2 (some .int) :: (wo_k289_X11_turns ++ (wsX110 ++ (wz_k168_X4_has ++ (wz_k270_X1_scan ++ (wz_k290_X1_turnCount ++ ([] : List Cond))))))
theorem zg_k289_X11_turns : ∀ w ∈ wz_k289_X11_turns, goodWord w = true := zg_cons rfl (zg_app (by decide +kernel) (zg_app zgU_wsX110 (zg_app zg_k168_X4_has (zg_app zg_k270_X1_scan (zg_app zg_k290_X1_turnCount zg_nil)))))
theorem zi_k289_X11_turns : ∀ w ∈ wz_k289_X11_turns, w ∈ lw_tbl := zi_cons zw_1242 (zi_app (zi_cons zw_490 (zi_cons zw_1086 (zi_cons zw_747 (zi_cons zw_748 (zi_cons zw_108 (zi_cons zw_495 (zi_cons zw_1208 (zi_cons zw_1152 (zi_cons zw_1153 (zi_cons zw_113 (zi_cons zw_1243 (zi_cons zw_1244 (zi_cons zw_1245 zi_nil))))))))))))) (zi_app inX11 (zi_app zi_k168_X4_has (zi_app zi_k270_X1_scan (zi_app zi_k290_X1_turnCount zi_nil)))))
set_option maxHeartbeats 4000000 in
set_option maxRecDepth 100000 in
theorem k289_X11_turns (l : Launch) (D : va_G) (zt : Nat × Nat × Nat × (Nat → Nat) × (Nat → Nat)) (q : Nat → Nat) (d : Nat → ClassId) (I : Nat → Int32) (A : Nat → Nat → Int32) (z1 : Int32) (hIv : IvX I A) : GM l D zt (tyX d) yX11_turns wz_k289_X11_turns ({ frames := 6, cells := 0, slots := 0, locals := 131 } : Room) [.ref (q 0), .int z1] (wX q d I A) (fun v _ w' => ∃ (I' : Nat → Int32) (A' : Nat → Nat → Int32), Md [28, 30, 31, 32, 33, 34] I I' ∧ Md [21, 22, 23, 26] A A' ∧ IvX I' A' ∧ ∃ y0 : Int32, v = some (.int y0) ∧ w' = wX q d I' A') 0 0 := by
  refine GM.of (cc := cX11_turns) (maxL := 2) (ret := (some .int)) (own := RX11) (lv := [(0, .ref (q 0)), (1, .int z1)]) (by decide) rfl rfl (Nat.le_of_ble_eq_true rfl) rfl (fun κ sz hk hR hN => ?_)
  have hin11 : ∀ w ∈ u_ws RX11 TX11 10, w ∈ wz_k289_X11_turns := fun w h => (List.mem_cons_of_mem _ (List.mem_append_right _ (List.mem_append_left _ h)))
  refine g_aload_n hk dX11_turns_0 rfl ?_
  refine gX_r0_3 hk hin11 (List.mem_cons_of_mem _ (List.mem_append_left _ (List.mem_of_getElem? (i := 0) rfl))) dX11_turns_1 ?_
  refine g_iload_n hk dX11_turns_4 rfl ?_
  refine g_callV (n := 1) hk (k168_X4_has l D zt q d I A z1 hIv) (SP.same _) (fun _ h => h) (gi_V (List.mem_cons_of_mem _ (List.mem_append_left _ (List.mem_of_getElem? (i := 1) rfl))) (List.mem_cons_of_mem _ (List.mem_append_left _ (List.mem_of_getElem? (i := 2) rfl))) (List.mem_cons_of_mem _ (List.mem_append_left _ (List.mem_of_getElem? (i := 3) rfl))) (List.mem_cons_of_mem _ (List.mem_append_left _ (List.mem_of_getElem? (i := 4) rfl))) (gi_sub (fun w h => (List.mem_cons_of_mem _ (List.mem_append_right _ (List.mem_append_right _ (List.mem_append_left _ h))))) zg_k168_X4_has)) rfl rfl rfl (by decide +kernel) ⟨Nat.le_of_ble_eq_true rfl, Nat.le_of_ble_eq_true rfl⟩ 15 rfl rfl rfl rfl (Nat.le_of_ble_eq_true rfl) ⟨Nat.le_of_ble_eq_true rfl, Nat.le_of_ble_eq_true rfl⟩ dX11_turns_5 (fun v ty' w' hp hk' => ?_)
  rcases hp with ⟨rfl, rfl⟩ | ⟨c8635, c8636, c8637, c8638, rfl, rfl⟩
  · skip
    show GW κ 2 0 0 (wX q d I A) 8 [(0, .ref (q 0)), (1, .int z1)] [.int 0]
    refine g_if_ne (tgt := 13) (a := 0) hk dX11_turns_8 (by decide) rfl (fun z9 => absurd z9 (show ¬ ((0 : Int) ≠ (0 : Int)) from by decide)) (fun _ => ?_)
    refine g_iconst (v := (-1)) hk dX11_turns_11 (by decide) ?_
    exact g_iret hk hR rfl ⟨I, A, (show Md [28, 30, 31, 32, 33, 34] I I from Md.rf), (show Md [21, 22, 23, 26] A A from Md.rf), hIv, (-1), rfl, rfl⟩ dX11_turns_12
  · skip
    show GW κ 2 0 0 (wX q d I A) 8 [(0, .ref (q 0)), (1, .int z1)] [.int 1]
    refine g_if_ne (tgt := 13) (a := 1) hk dX11_turns_8 (by decide) rfl (fun _ => ?_) (fun z9 => absurd (show (1 : Int) ≠ (0 : Int) from by decide) z9)
    refine g_aload_n hk dX11_turns_13 rfl ?_
    refine gX_r0_8 hk hin11 (List.mem_cons_of_mem _ (List.mem_append_left _ (List.mem_of_getElem? (i := 5) rfl))) dX11_turns_14 ?_
    refine g_iload_n hk dX11_turns_17 rfl ?_
    refine g_callV (n := 1) hk (k270_X1_scan l D zt q d I A z1 hIv) (SP.same _) (fun _ h => h) (gi_V (List.mem_cons_of_mem _ (List.mem_append_left _ (List.mem_of_getElem? (i := 6) rfl))) (List.mem_cons_of_mem _ (List.mem_append_left _ (List.mem_of_getElem? (i := 7) rfl))) (List.mem_cons_of_mem _ (List.mem_append_left _ (List.mem_of_getElem? (i := 8) rfl))) (List.mem_cons_of_mem _ (List.mem_append_left _ (List.mem_of_getElem? (i := 9) rfl))) (gi_sub (fun w h => (List.mem_cons_of_mem _ (List.mem_append_right _ (List.mem_append_right _ (List.mem_append_right _ (List.mem_append_left _ h)))))) zg_k270_X1_scan)) rfl rfl rfl (by decide +kernel) ⟨Nat.le_of_ble_eq_true rfl, Nat.le_of_ble_eq_true rfl⟩ 43 rfl rfl rfl rfl (Nat.le_of_ble_eq_true rfl) ⟨Nat.le_of_ble_eq_true rfl, Nat.le_of_ble_eq_true rfl⟩ dX11_turns_18 (fun v ty' w' hp hk' => ?_)
    obtain ⟨I8641, A8641, hI8641, hA8641, hV8641, rfl, rfl⟩ := hp
    show GW κ 2 0 0 (wX q d I8641 A8641) 21 [(0, .ref (q 0)), (1, .int z1)] []
    refine g_aload_n hk dX11_turns_21 rfl ?_
    refine gX_r0_8 hk hin11 (List.mem_cons_of_mem _ (List.mem_append_left _ (List.mem_of_getElem? (i := 5) rfl))) dX11_turns_22 ?_
    refine g_callV (n := 0) hk (k290_X1_turnCount l D zt q d I8641 A8641  hV8641) (SP.same _) (fun _ h => h) (gi_V (List.mem_cons_of_mem _ (List.mem_append_left _ (List.mem_of_getElem? (i := 10) rfl))) (List.mem_cons_of_mem _ (List.mem_append_left _ (List.mem_of_getElem? (i := 11) rfl))) (List.mem_cons_of_mem _ (List.mem_append_left _ (List.mem_of_getElem? (i := 12) rfl))) (List.mem_cons_of_mem _ (List.mem_append_left _ (List.mem_of_getElem? (i := 9) rfl))) (gi_sub (fun w h => (List.mem_cons_of_mem _ (List.mem_append_right _ (List.mem_append_right _ (List.mem_append_right _ (List.mem_append_right _ (List.mem_append_left _ h))))))) zg_k290_X1_turnCount)) rfl rfl rfl (by decide +kernel) ⟨Nat.le_of_ble_eq_true rfl, Nat.le_of_ble_eq_true rfl⟩ 43 rfl rfl rfl rfl (Nat.le_of_ble_eq_true rfl) ⟨Nat.le_of_ble_eq_true rfl, Nat.le_of_ble_eq_true rfl⟩ dX11_turns_25 (fun v ty' w' hp hk' => ?_)
    obtain ⟨y8779, rfl, rfl⟩ := hp
    show GW κ 2 0 0 (wX q d I8641 A8641) 28 [(0, .ref (q 0)), (1, .int z1)] [.int y8779]
    have b8780l := Int32.le_toInt y8779
    have b8780h := Int32.toInt_lt y8779
    exact g_iret hk hR rfl ⟨I8641, A8641, (show Md [28, 30, 31, 32, 33, 34] I I8641 from (Md.tr Md.rf hI8641 rfl)), (show Md [21, 22, 23, 26] A A8641 from (Md.tr Md.rf hA8641 rfl)), hV8641, y8779, rfl, rfl⟩ dX11_turns_28
def wo_k295_X2_copyRow : List Cond := [Cond.fieldLink RX2 24 "WarpDesk$Fit" "length" "I"]
def wz_k295_X2_copyRow : List Cond := .code yX2_copyRow cX2_copyRow 6 none :: (wo_k295_X2_copyRow ++ (wsX20 ++ ([] : List Cond)))
theorem zg_k295_X2_copyRow : ∀ w ∈ wz_k295_X2_copyRow, goodWord w = true := zg_cons rfl (zg_app (by decide +kernel) (zg_app zgU_wsX20 zg_nil))
theorem zi_k295_X2_copyRow : ∀ w ∈ wz_k295_X2_copyRow, w ∈ lw_tbl := zi_cons zw_1268 (zi_app (zi_cons zw_343 zi_nil) (zi_app inX2 zi_nil))
set_option maxHeartbeats 4000000 in
set_option maxRecDepth 100000 in
theorem k295_X2_copyRow (l : Launch) (D : va_G) (zt : Nat × Nat × Nat × (Nat → Nat) × (Nat → Nat)) (q : Nat → Nat) (d : Nat → ClassId) (I : Nat → Int32) (A : Nat → Nat → Int32) (z2 : Int32) (z4 : Int32) (hIv : IvX I A) : GM l D zt (tyX d) yX2_copyRow wz_k295_X2_copyRow ({ frames := 0, cells := 0, slots := 0, locals := 0 } : Room) [.ref (q 38), .ref (q 39), .int z2, .ref (q 50), .int z4] (wX q d I A) (fun v _ w' => ∃ (I' : Nat → Int32) (A' : Nat → Nat → Int32), Md [] I I' ∧ Md [30] A A' ∧ IvX I' A' ∧ v = none ∧ w' = wX q d I' A') 0 0 := by
  refine GM.of (cc := cX2_copyRow) (maxL := 6) (ret := none) (own := RX2) (lv := [(0, .ref (q 38)), (1, .ref (q 39)), (2, .int z2), (3, .ref (q 50)), (4, .int z4)]) (by decide) rfl rfl (Nat.le_of_ble_eq_true rfl) rfl (fun κ sz hk hR hN => ?_)
  have hin2 : ∀ w ∈ u_ws RX2 TX2 10, w ∈ wz_k295_X2_copyRow := fun w h => (List.mem_cons_of_mem _ (List.mem_append_right _ (List.mem_append_left _ h)))
  refine g_iload_n hk dX2_copyRow_0 rfl ?_
  have b8816l := Int32.le_toInt z2
  have b8816h := Int32.toInt_lt z2
  refine g_if_lt (tgt := 32) (a := z2.toInt) hk dX2_copyRow_1 (by decide) rfl (fun c8817 => ?_) (fun c8817 => ?_)
  · skip
    exact g_vret hk hR ⟨I, A, (show Md [] I I from Md.rf), (show Md [30] A A from Md.rf), hIv, rfl, rfl⟩ dX2_copyRow_32
  · skip
    refine g_iload hk dX2_copyRow_4 rfl ?_
    have b8818l := Int32.le_toInt z4
    have b8818h := Int32.toInt_lt z4
    refine g_if_lt (tgt := 32) (a := z4.toInt) hk dX2_copyRow_6 (by decide) rfl (fun c8819 => ?_) (fun c8819 => ?_)
    · skip
      exact g_vret hk hR ⟨I, A, (show Md [] I I from Md.rf), (show Md [30] A A from Md.rf), hIv, rfl, rfl⟩ dX2_copyRow_32
    · skip
      refine g_aload_n hk dX2_copyRow_9 rfl ?_
      refine gX_i30 (v := (I 30)) hk hin2 (List.mem_cons_of_mem _ (List.mem_append_left _ (List.mem_of_getElem? (i := 0) rfl))) dX2_copyRow_10 rfl ?_
      have f8820 := IvX_f30 hIv
      refine g_aload_n hk dX2_copyRow_13 rfl ?_
      refine nX_21 hk dX2_copyRow_14 ?_
      refine g_iload_n hk dX2_copyRow_15 rfl ?_
      refine g_isub hk dX2_copyRow_16 ?_
      refine g_topi (fun y8821 ey8821 => ?_)
      have hy8821 : y8821.toInt = 16 - z2.toInt := i32_sub ey8821 rfl rfl (by omega) (by omega)
      refine g_icmp_gt (tgt := 32) (a := (I 30).toInt) (b := y8821.toInt) hk dX2_copyRow_17 (by decide) rfl rfl (fun c8822 => ?_) (fun c8822 => ?_)
      · skip
        exact g_vret hk hR ⟨I, A, (show Md [] I I from Md.rf), (show Md [30] A A from Md.rf), hIv, rfl, rfl⟩ dX2_copyRow_32
      · skip
        refine g_aload_n hk dX2_copyRow_20 rfl ?_
        refine gX_i30 (v := (I 30)) hk hin2 (List.mem_cons_of_mem _ (List.mem_append_left _ (List.mem_of_getElem? (i := 0) rfl))) dX2_copyRow_21 rfl ?_
        refine g_aload_n hk dX2_copyRow_24 rfl ?_
        refine nX_30 hk dX2_copyRow_25 ?_
        refine g_iload hk dX2_copyRow_26 rfl ?_
        refine g_isub hk dX2_copyRow_28 ?_
        refine g_topi (fun y8823 ey8823 => ?_)
        have hy8823 : y8823.toInt = 2560 - z4.toInt := i32_sub ey8823 rfl rfl (by omega) (by omega)
        refine g_icmp_le (tgt := 33) (a := (I 30).toInt) (b := y8823.toInt) hk dX2_copyRow_29 (by decide) rfl rfl (fun c8824 => ?_) (fun c8824 => ?_)
        · skip
          refine g_iconst (v := 0) hk dX2_copyRow_33 (by decide) ?_
          refine g_istore (lv' := [(5, .int 0), (0, .ref (q 38)), (1, .ref (q 39)), (2, .int z2), (3, .ref (q 50)), (4, .int z4)]) hk dX2_copyRow_34 (by decide) rfl ?_
          have lp8849 : ∀ (n8850 : Nat) (x8825 : Int32) (I8831 : Nat → Int32) (A8831 : Nat → Nat → Int32), (Md [] I I8831) → (Md [30] A A8831) → (IvX I8831 A8831) → (0 ≤ x8825.toInt) → (x8825.toInt ≤ 16) → (17 - x8825.toInt < (n8850 : Int)) → (0 < n8850) → GW κ 6 0 0 (wX q d I8831 A8831) 36 [(5, .int x8825), (0, .ref (q 38)), (1, .ref (q 39)), (2, .int z2), (3, .ref (q 50)), (4, .int z4)] [] := by
            intro n8850
            induction n8850 with
            | zero =>
              intro x8825 I8831 A8831 hI8831 hA8831 hV8831 h8847 h8848 m8851 m8851z
              exact absurd m8851z (Nat.lt_irrefl 0)
            | succ n8850 ih8852 =>
              intro x8825 I8831 A8831 hI8831 hA8831 hV8831 h8847 h8848 m8851 m8851z
              refine g_iload hk dX2_copyRow_36 rfl ?_
              refine g_aload_n hk dX2_copyRow_38 rfl ?_
              refine gX_i30 (v := (I 30)) hk hin2 (List.mem_cons_of_mem _ (List.mem_append_left _ (List.mem_of_getElem? (i := 0) rfl))) dX2_copyRow_39 (hI8831 30 rfl) ?_
              refine g_icmp_ge (tgt := 64) (a := x8825.toInt) (b := (I 30).toInt) hk dX2_copyRow_42 (by decide) rfl rfl (fun c8853 => ?_) (fun c8853 => ?_)
              · skip
                exact g_vret hk hR ⟨I8831, A8831, (show Md [] I I8831 from (Md.tr Md.rf hI8831 rfl)), (show Md [30] A A8831 from (Md.tr Md.rf hA8831 rfl)), hV8831, rfl, rfl⟩ dX2_copyRow_64
              · skip
                refine g_aload_n hk dX2_copyRow_45 rfl ?_
                refine g_iload hk dX2_copyRow_46 rfl ?_
                refine g_iload hk dX2_copyRow_48 rfl ?_
                refine g_iadd hk dX2_copyRow_50 ?_
                refine g_topi (fun y8854 ey8854 => ?_)
                have hy8854 : y8854.toInt = z4.toInt + x8825.toInt := i32_add ey8854 rfl rfl (by omega) (by omega)
                refine g_aload_n hk dX2_copyRow_51 rfl ?_
                refine g_iload_n hk dX2_copyRow_52 rfl ?_
                refine g_iload hk dX2_copyRow_53 rfl ?_
                refine g_iadd hk dX2_copyRow_55 ?_
                refine g_topi (fun y8855 ey8855 => ?_)
                have hy8855 : y8855.toInt = z2.toInt + x8825.toInt := i32_add ey8855 rfl rfl (by omega) (by omega)
                refine lX_21 (v := (A 21 y8855.toNatClampNeg)) hk (vp_in_iff.mpr ⟨by omega, by omega⟩) (congrFun (hA8831 21 rfl) _) dX2_copyRow_56 ?_
                refine sX_30 (j := y8854.toNatClampNeg) hk (vp_in_iff.mpr ⟨by omega, by omega⟩) rfl dX2_copyRow_57 ?_
                obtain ⟨y8856, ey8856⟩ : ∃ y : Int32, y = x8825 + Int32.ofInt 1 := ⟨_, rfl⟩
                have hy8856 : y8856.toInt = x8825.toInt + 1 := i32_add ey8856 rfl (by decide) (by omega) (by omega)
                refine g_iinc (v := y8856) (lv' := [(5, .int y8856), (0, .ref (q 38)), (1, .ref (q 39)), (2, .int z2), (3, .ref (q 50)), (4, .int z4)]) hk 0 dX2_copyRow_58 rfl ey8856.symm (by decide) rfl ?_
                refine g_goto (tgt := 36) hk dX2_copyRow_61 (by decide) ?_
                exact g_lv (List.forall_mem_cons.mpr ⟨List.mem_of_getElem? (i := 0) rfl, (List.forall_mem_cons.mpr ⟨List.mem_of_getElem? (i := 1) rfl, (List.forall_mem_cons.mpr ⟨List.mem_of_getElem? (i := 2) rfl, (List.forall_mem_cons.mpr ⟨List.mem_of_getElem? (i := 3) rfl, (List.forall_mem_cons.mpr ⟨List.mem_of_getElem? (i := 4) rfl, (List.forall_mem_cons.mpr ⟨List.mem_of_getElem? (i := 5) rfl, (fun _ h => absurd h List.not_mem_nil)⟩)⟩)⟩)⟩)⟩)⟩) (ih8852 y8856 I8831 (up3 A8831 30 (y8854.toNatClampNeg) (A 21 y8855.toNatClampNeg)) (show Md [] I I8831 from Md.tr hI8831 (show Md [] I8831 I8831 from Md.rf) rfl) (show Md [30] A (up3 A8831 30 (y8854.toNatClampNeg) (A 21 y8855.toNatClampNeg)) from Md.tr hA8831 (show Md [30] A8831 (up3 A8831 30 (y8854.toNatClampNeg) (A 21 y8855.toNatClampNeg)) from (Md.up3 Md.rf rfl)) rfl) ⟨(IvX_f0 (I := I8831) (A := A8831) hV8831), (IvX_f18 (I := I8831) (A := A8831) hV8831), (IvX_f30 (I := I8831) (A := A8831) hV8831), (IvX_f31 (I := I8831) (A := A8831) hV8831), (IvX_a4 (I := I8831) (A := A8831) hV8831), (IvX_a9 (I := I8831) (A := A8831) hV8831), trivial⟩ (by omega) (by omega) (by omega) (by omega))
          have k8858 : (0 : Int32).toInt = 0 := rfl
          obtain ⟨n8857, n8857a, n8857b⟩ : ∃ n : Nat, 17 - 0 < (n : Int) ∧ 0 < n := ⟨((17 - 0 : Int)).toNat + 1, by omega, by omega⟩
          exact lp8849 n8857 0 I A Md.rf Md.rf hIv (by omega) (by omega) n8857a n8857b
        · skip
          exact g_vret hk hR ⟨I, A, (show Md [] I I from Md.rf), (show Md [30] A A from Md.rf), hIv, rfl, rfl⟩ dX2_copyRow_32
def wo_k294_X2_giveLeft : List Cond := [Cond.fieldLink RX2 9 "WarpDesk$Fit" "left" "[I", Cond.methodLink RX2 46 yX2_copyRow, Cond.instanceMethod yX2_copyRow, Cond.selects RX2 yX2_copyRow yX2_copyRow, Cond.initialized RX2]
def wz_k294_X2_giveLeft : List Cond := .code yX2_giveLeft cX2_giveLeft 3 none :: (wo_k294_X2_giveLeft ++ (wsX20 ++ (wz_k295_X2_copyRow ++ ([] : List Cond))))
theorem zg_k294_X2_giveLeft : ∀ w ∈ wz_k294_X2_giveLeft, goodWord w = true := zg_cons rfl (zg_app (by decide +kernel) (zg_app zgU_wsX20 (zg_app zg_k295_X2_copyRow zg_nil)))
theorem zi_k294_X2_giveLeft : ∀ w ∈ wz_k294_X2_giveLeft, w ∈ lw_tbl := zi_cons zw_1264 (zi_app (zi_cons zw_334 (zi_cons zw_1265 (zi_cons zw_1267 (zi_cons zw_40 (zi_cons zw_112 zi_nil))))) (zi_app inX2 (zi_app zi_k295_X2_copyRow zi_nil)))
set_option maxHeartbeats 4000000 in
set_option maxRecDepth 100000 in
theorem k294_X2_giveLeft (l : Launch) (D : va_G) (zt : Nat × Nat × Nat × (Nat → Nat) × (Nat → Nat)) (q : Nat → Nat) (d : Nat → ClassId) (I : Nat → Int32) (A : Nat → Nat → Int32) (z2 : Int32) (hIv : IvX I A) : GM l D zt (tyX d) yX2_giveLeft wz_k294_X2_giveLeft ({ frames := 1, cells := 0, slots := 0, locals := 25 } : Room) [.ref (q 38), .ref (q 50), .int z2] (wX q d I A) (fun v _ w' => ∃ (I' : Nat → Int32) (A' : Nat → Nat → Int32), Md [] I I' ∧ Md [30] A A' ∧ IvX I' A' ∧ v = none ∧ w' = wX q d I' A') 0 0 := by
  refine GM.of (cc := cX2_giveLeft) (maxL := 3) (ret := none) (own := RX2) (lv := [(0, .ref (q 38)), (1, .ref (q 50)), (2, .int z2)]) (by decide) rfl rfl (Nat.le_of_ble_eq_true rfl) rfl (fun κ sz hk hR hN => ?_)
  have hin2 : ∀ w ∈ u_ws RX2 TX2 10, w ∈ wz_k294_X2_giveLeft := fun w h => (List.mem_cons_of_mem _ (List.mem_append_right _ (List.mem_append_left _ h)))
  refine g_aload_n hk dX2_giveLeft_0 rfl ?_
  refine g_aload_n hk dX2_giveLeft_1 rfl ?_
  refine gX_r38_0 hk hin2 (List.mem_cons_of_mem _ (List.mem_append_left _ (List.mem_of_getElem? (i := 0) rfl))) dX2_giveLeft_2 ?_
  refine g_iconst (v := 0) hk dX2_giveLeft_5 (by decide) ?_
  refine g_aload_n hk dX2_giveLeft_6 rfl ?_
  refine g_iload_n hk dX2_giveLeft_7 rfl ?_
  have k8859 : (0 : Int32).toInt = 0 := rfl
  refine g_callV (n := 4) hk (k295_X2_copyRow l D zt q d I A 0 z2 hIv) (SP.same _) (fun _ h => h) (gi_V (List.mem_cons_of_mem _ (List.mem_append_left _ (List.mem_of_getElem? (i := 1) rfl))) (List.mem_cons_of_mem _ (List.mem_append_left _ (List.mem_of_getElem? (i := 2) rfl))) (List.mem_cons_of_mem _ (List.mem_append_left _ (List.mem_of_getElem? (i := 3) rfl))) (List.mem_cons_of_mem _ (List.mem_append_left _ (List.mem_of_getElem? (i := 4) rfl))) (gi_sub (fun w h => (List.mem_cons_of_mem _ (List.mem_append_right _ (List.mem_append_right _ (List.mem_append_left _ h))))) zg_k295_X2_copyRow)) rfl rfl rfl (by decide +kernel) ⟨Nat.le_of_ble_eq_true rfl, Nat.le_of_ble_eq_true rfl⟩ 38 rfl rfl rfl rfl (Nat.le_of_ble_eq_true rfl) ⟨Nat.le_of_ble_eq_true rfl, Nat.le_of_ble_eq_true rfl⟩ dX2_giveLeft_8 (fun v ty' w' hp hk' => ?_)
  obtain ⟨I8861, A8861, hI8861, hA8861, hV8861, rfl, rfl⟩ := hp
  show GW κ 3 0 0 (wX q d I8861 A8861) 11 [(0, .ref (q 38)), (1, .ref (q 50)), (2, .int z2)] []
  exact g_vret hk hR ⟨I8861, A8861, (show Md [] I I8861 from (Md.tr Md.rf hI8861 rfl)), (show Md [30] A A8861 from (Md.tr Md.rf hA8861 rfl)), hV8861, rfl, rfl⟩ dX2_giveLeft_11
def wo_k293_X9_bringAll : List Cond := [Cond.fieldLink RX9 15 "WarpDesk$Stretches" "isThere" "[Z", Cond.fieldLink RX9 19 "WarpDesk$Stretches" "bench" "LWarpDesk$Bench;", Cond.fieldLink RX9 30 "WarpDesk$Bench" "series" "LWarpDesk$Series;", Cond.methodLink RX9 34 yX6_hasWindow, Cond.instanceMethod yX6_hasWindow, Cond.selects RX6 yX6_hasWindow yX6_hasWindow, Cond.initialized RX6, Cond.methodLink RX9 40 yX0_openWindow, Cond.instanceMethod yX0_openWindow, Cond.selects RX0 yX0_openWindow yX0_openWindow, Cond.initialized RX0, Cond.fieldLink RX9 29 "WarpDesk$Stretches" "fit" "LWarpDesk$Fit;", Cond.fieldLink RX9 9 "WarpDesk$Stretches" "rows" "[I", Cond.methodLink RX9 44 yX2_giveLeft, Cond.instanceMethod yX2_giveLeft, Cond.selects RX2 yX2_giveLeft yX2_giveLeft, Cond.initialized RX2]
def wz_k293_X9_bringAll : List Cond := .code yX9_bringAll cX9_bringAll 3 none :: (wo_k293_X9_bringAll ++ (wsX00 ++ (wsX90 ++ (wz_k207_X6_hasWindow ++ (wz_k213_X0_openWindow ++ (wz_k294_X2_giveLeft ++ ([] : List Cond)))))))
theorem zg_k293_X9_bringAll : ∀ w ∈ wz_k293_X9_bringAll, goodWord w = true := zg_cons rfl (zg_app (by decide +kernel) (zg_app zgU_wsX00 (zg_app zgU_wsX90 (zg_app zg_k207_X6_hasWindow (zg_app zg_k213_X0_openWindow (zg_app zg_k294_X2_giveLeft zg_nil))))))
theorem zi_k293_X9_bringAll : ∀ w ∈ wz_k293_X9_bringAll, w ∈ lw_tbl := zi_cons zw_1258 (zi_app (zi_cons zw_449 (zi_cons zw_446 (zi_cons zw_375 (zi_cons zw_1259 (zi_cons zw_902 (zi_cons zw_903 (zi_cons zw_109 (zi_cons zw_1260 (zi_cons zw_930 (zi_cons zw_931 (zi_cons zw_111 (zi_cons zw_447 (zi_cons zw_448 (zi_cons zw_1261 (zi_cons zw_1262 (zi_cons zw_1263 (zi_cons zw_112 zi_nil))))))))))))))))) (zi_app inX0 (zi_app inX9 (zi_app zi_k207_X6_hasWindow (zi_app zi_k213_X0_openWindow (zi_app zi_k294_X2_giveLeft zi_nil))))))
set_option maxHeartbeats 4000000 in
set_option maxRecDepth 100000 in
theorem k293_X9_bringAll (l : Launch) (D : va_G) (zt : Nat × Nat × Nat × (Nat → Nat) × (Nat → Nat)) (q : Nat → Nat) (d : Nat → ClassId) (I : Nat → Int32) (A : Nat → Nat → Int32) (z1 : Int32) (hIv : IvX I A) : GM l D zt (tyX d) yX9_bringAll wz_k293_X9_bringAll ({ frames := 4, cells := 0, slots := 0, locals := 82 } : Room) [.ref (q 49), .int z1] (wX q d I A) (fun v _ w' => ∃ (I' : Nat → Int32) (A' : Nat → Nat → Int32), Md [28, 30, 31, 32] I I' ∧ Md [21, 30, 31] A A' ∧ IvX I' A' ∧ v = none ∧ w' = wX q d I' A') 0 0 := by
  refine GM.of (cc := cX9_bringAll) (maxL := 3) (ret := none) (own := RX9) (lv := [(0, .ref (q 49)), (1, .int z1)]) (by decide) rfl rfl (Nat.le_of_ble_eq_true rfl) rfl (fun κ sz hk hR hN => ?_)
  have hin0 : ∀ w ∈ u_ws RX0 TX0 5, w ∈ wz_k293_X9_bringAll := fun w h => (List.mem_cons_of_mem _ (List.mem_append_right _ (List.mem_append_left _ h)))
  have hin9 : ∀ w ∈ u_ws RX9 TX9 11, w ∈ wz_k293_X9_bringAll := fun w h => (List.mem_cons_of_mem _ (List.mem_append_right _ (List.mem_append_right _ (List.mem_append_left _ h))))
  refine g_iconst (v := 0) hk dX9_bringAll_0 (by decide) ?_
  refine g_istore_n (lv' := [(2, .int 0), (0, .ref (q 49)), (1, .int z1)]) hk dX9_bringAll_1 (by decide) rfl ?_
  have lp8967 : ∀ (n8968 : Nat) (x8798 : Int32) (I8801 : Nat → Int32) (A8801 : Nat → Nat → Int32), (Md [28, 30, 31, 32] I I8801) → (Md [21, 30, 31] A A8801) → (IvX I8801 A8801) → (0 ≤ x8798.toInt) → (x8798.toInt ≤ 160) → (161 - x8798.toInt < (n8968 : Int)) → (0 < n8968) → GW κ 3 0 0 (wX q d I8801 A8801) 2 [(2, .int x8798), (0, .ref (q 49)), (1, .int z1)] [] := by
    intro n8968
    induction n8968 with
    | zero =>
      intro x8798 I8801 A8801 hI8801 hA8801 hV8801 h8965 h8966 m8969 m8969z
      exact absurd m8969z (Nat.lt_irrefl 0)
    | succ n8968 ih8970 =>
      intro x8798 I8801 A8801 hI8801 hA8801 hV8801 h8965 h8966 m8969 m8969z
      refine g_iload_n hk dX9_bringAll_2 rfl ?_
      refine g_sipush (v := 160) hk dX9_bringAll_3 (by decide) ?_
      refine g_icmp_ge (tgt := 66) (a := x8798.toInt) (b := 160) hk dX9_bringAll_6 (by decide) rfl rfl (fun c8971 => ?_) (fun c8971 => ?_)
      · skip
        exact g_vret hk hR ⟨I8801, A8801, (show Md [28, 30, 31, 32] I I8801 from (Md.tr Md.rf hI8801 rfl)), (show Md [21, 30, 31] A A8801 from (Md.tr Md.rf hA8801 rfl)), hV8801, rfl, rfl⟩ dX9_bringAll_66
      · skip
        refine g_aload_n hk dX9_bringAll_9 rfl ?_
        refine gX_r49_3 hk hin9 (List.mem_cons_of_mem _ (List.mem_append_left _ (List.mem_of_getElem? (i := 0) rfl))) dX9_bringAll_10 ?_
        refine g_iload_n hk dX9_bringAll_13 rfl ?_
        refine g_aload_n hk dX9_bringAll_14 rfl ?_
        refine gX_r49_0 hk hin9 (List.mem_cons_of_mem _ (List.mem_append_left _ (List.mem_of_getElem? (i := 1) rfl))) dX9_bringAll_15 ?_
        refine gX_r37_0 hk hin0 (List.mem_cons_of_mem _ (List.mem_append_left _ (List.mem_of_getElem? (i := 2) rfl))) dX9_bringAll_18 ?_
        refine g_iload_n hk dX9_bringAll_21 rfl ?_
        refine g_iload_n hk dX9_bringAll_22 rfl ?_
        refine g_callV (n := 2) hk (k207_X6_hasWindow l D zt q d I8801 A8801 x8798 z1 hV8801) (SP.same _) (fun _ h => h) (gi_V (List.mem_cons_of_mem _ (List.mem_append_left _ (List.mem_of_getElem? (i := 3) rfl))) (List.mem_cons_of_mem _ (List.mem_append_left _ (List.mem_of_getElem? (i := 4) rfl))) (List.mem_cons_of_mem _ (List.mem_append_left _ (List.mem_of_getElem? (i := 5) rfl))) (List.mem_cons_of_mem _ (List.mem_append_left _ (List.mem_of_getElem? (i := 6) rfl))) (gi_sub (fun w h => (List.mem_cons_of_mem _ (List.mem_append_right _ (List.mem_append_right _ (List.mem_append_right _ (List.mem_append_left _ h)))))) zg_k207_X6_hasWindow)) rfl rfl rfl (by decide +kernel) ⟨Nat.le_of_ble_eq_true rfl, Nat.le_of_ble_eq_true rfl⟩ 13 rfl rfl rfl rfl (Nat.le_of_ble_eq_true rfl) ⟨Nat.le_of_ble_eq_true rfl, Nat.le_of_ble_eq_true rfl⟩ dX9_bringAll_23 (fun v ty' w' hp hk' => ?_)
        rcases hp with ⟨rfl, rfl⟩ | ⟨c8973, c8974, c8975, c8976, c8977, c8978, rfl, rfl⟩
        · skip
          show GW κ 3 0 0 (wX q d I8801 A8801) 26 [(2, .int x8798), (0, .ref (q 49)), (1, .int z1)] [.int 0, .int x8798, .ref (q 51)]
          have k8980 : (0 : Int32).toInt = 0 := rfl
          refine sX_31 (y := (vp_nar .boolean 0)) (j := x8798.toNatClampNeg) hk (vp_in_iff.mpr ⟨by omega, by omega⟩) rfl rfl dX9_bringAll_26 ?_
          refine g_aload_n hk dX9_bringAll_27 rfl ?_
          refine gX_r49_3 hk hin9 (List.mem_cons_of_mem _ (List.mem_append_left _ (List.mem_of_getElem? (i := 0) rfl))) dX9_bringAll_28 ?_
          refine g_iload_n hk dX9_bringAll_31 rfl ?_
          refine lX_31 hk (vp_in_iff.mpr ⟨by omega, by omega⟩) rfl dX9_bringAll_32 ?_
          refine g_topi (fun y8981 ey8981 => ?_)
          have b8982l := Int32.le_toInt y8981
          have b8982h := Int32.toInt_lt y8981
          refine g_if_eq (tgt := 60) (a := y8981.toInt) hk dX9_bringAll_33 (by decide) rfl (fun c8983 => ?_) (fun c8983 => ?_)
          · skip
            obtain ⟨y8984, ey8984⟩ : ∃ y : Int32, y = x8798 + Int32.ofInt 1 := ⟨_, rfl⟩
            have hy8984 : y8984.toInt = x8798.toInt + 1 := i32_add ey8984 rfl (by decide) (by omega) (by omega)
            refine g_iinc (v := y8984) (lv' := [(2, .int y8984), (0, .ref (q 49)), (1, .int z1)]) hk 0 dX9_bringAll_60 rfl ey8984.symm (by decide) rfl ?_
            refine g_goto (tgt := 2) hk dX9_bringAll_63 (by decide) ?_
            exact g_lv (List.forall_mem_cons.mpr ⟨List.mem_of_getElem? (i := 0) rfl, (List.forall_mem_cons.mpr ⟨List.mem_of_getElem? (i := 1) rfl, (List.forall_mem_cons.mpr ⟨List.mem_of_getElem? (i := 2) rfl, (fun _ h => absurd h List.not_mem_nil)⟩)⟩)⟩) (ih8970 y8984 I8801 (up3 A8801 31 (x8798.toNatClampNeg) (vp_nar .boolean 0)) (show Md [28, 30, 31, 32] I I8801 from Md.tr hI8801 (show Md [28, 30, 31, 32] I8801 I8801 from Md.rf) rfl) (show Md [21, 30, 31] A (up3 A8801 31 (x8798.toNatClampNeg) (vp_nar .boolean 0)) from Md.tr hA8801 (show Md [21, 30, 31] A8801 (up3 A8801 31 (x8798.toNatClampNeg) (vp_nar .boolean 0)) from (Md.up3 Md.rf rfl)) rfl) ⟨(IvX_f0 (I := I8801) (A := A8801) hV8801), (IvX_f18 (I := I8801) (A := A8801) hV8801), (IvX_f30 (I := I8801) (A := A8801) hV8801), (IvX_f31 (I := I8801) (A := A8801) hV8801), (IvX_a4 (I := I8801) (A := A8801) hV8801), (IvX_a9 (I := I8801) (A := A8801) hV8801), trivial⟩ (by omega) (by omega) (by omega) (by omega))
          · skip
            refine g_aload_n hk dX9_bringAll_36 rfl ?_
            refine gX_r49_0 hk hin9 (List.mem_cons_of_mem _ (List.mem_append_left _ (List.mem_of_getElem? (i := 1) rfl))) dX9_bringAll_37 ?_
            refine g_iload_n hk dX9_bringAll_40 rfl ?_
            refine g_iload_n hk dX9_bringAll_41 rfl ?_
            refine g_callV (n := 2) hk (k213_X0_openWindow l D zt q d I8801 (up3 A8801 31 (x8798.toNatClampNeg) (vp_nar .boolean 0)) x8798 z1 ⟨(IvX_f0 (I := I8801) (A := A8801) hV8801), (IvX_f18 (I := I8801) (A := A8801) hV8801), (IvX_f30 (I := I8801) (A := A8801) hV8801), (IvX_f31 (I := I8801) (A := A8801) hV8801), (IvX_a4 (I := I8801) (A := A8801) hV8801), (IvX_a9 (I := I8801) (A := A8801) hV8801), trivial⟩) (SP.same _) (fun _ h => h) (gi_V (List.mem_cons_of_mem _ (List.mem_append_left _ (List.mem_of_getElem? (i := 7) rfl))) (List.mem_cons_of_mem _ (List.mem_append_left _ (List.mem_of_getElem? (i := 8) rfl))) (List.mem_cons_of_mem _ (List.mem_append_left _ (List.mem_of_getElem? (i := 9) rfl))) (List.mem_cons_of_mem _ (List.mem_append_left _ (List.mem_of_getElem? (i := 10) rfl))) (gi_sub (fun w h => (List.mem_cons_of_mem _ (List.mem_append_right _ (List.mem_append_right _ (List.mem_append_right _ (List.mem_append_right _ (List.mem_append_left _ h))))))) zg_k213_X0_openWindow)) rfl rfl rfl (by decide +kernel) ⟨Nat.le_of_ble_eq_true rfl, Nat.le_of_ble_eq_true rfl⟩ 37 rfl rfl rfl rfl (Nat.le_of_ble_eq_true rfl) ⟨Nat.le_of_ble_eq_true rfl, Nat.le_of_ble_eq_true rfl⟩ dX9_bringAll_42 (fun v ty' w' hp hk' => ?_)
            obtain ⟨I8986, A8986, hI8986, hA8986, hV8986, rfl, rfl⟩ := hp
            show GW κ 3 0 0 (wX q d I8986 A8986) 45 [(2, .int x8798), (0, .ref (q 49)), (1, .int z1)] []
            refine g_aload_n hk dX9_bringAll_45 rfl ?_
            refine gX_r49_1 hk hin9 (List.mem_cons_of_mem _ (List.mem_append_left _ (List.mem_of_getElem? (i := 11) rfl))) dX9_bringAll_46 ?_
            refine g_aload_n hk dX9_bringAll_49 rfl ?_
            refine gX_r49_2 hk hin9 (List.mem_cons_of_mem _ (List.mem_append_left _ (List.mem_of_getElem? (i := 12) rfl))) dX9_bringAll_50 ?_
            refine g_iload_n hk dX9_bringAll_53 rfl ?_
            refine g_bipush (v := 16) hk dX9_bringAll_54 (by decide) ?_
            refine g_imul hk dX9_bringAll_56 ?_
            refine g_topi (fun y8987 ey8987 => ?_)
            have hy8987 : y8987.toInt = x8798.toInt * 16 := i32_mul ey8987 rfl rfl (by omega) (by omega)
            refine g_callV (n := 2) hk (k294_X2_giveLeft l D zt q d I8986 A8986 y8987 hV8986) (SP.same _) (fun _ h => h) (gi_V (List.mem_cons_of_mem _ (List.mem_append_left _ (List.mem_of_getElem? (i := 13) rfl))) (List.mem_cons_of_mem _ (List.mem_append_left _ (List.mem_of_getElem? (i := 14) rfl))) (List.mem_cons_of_mem _ (List.mem_append_left _ (List.mem_of_getElem? (i := 15) rfl))) (List.mem_cons_of_mem _ (List.mem_append_left _ (List.mem_of_getElem? (i := 16) rfl))) (gi_sub (fun w h => (List.mem_cons_of_mem _ (List.mem_append_right _ (List.mem_append_right _ (List.mem_append_right _ (List.mem_append_right _ (List.mem_append_right _ (List.mem_append_left _ h)))))))) zg_k294_X2_giveLeft)) rfl rfl rfl (by decide +kernel) ⟨Nat.le_of_ble_eq_true rfl, Nat.le_of_ble_eq_true rfl⟩ 38 rfl rfl rfl rfl (Nat.le_of_ble_eq_true rfl) ⟨Nat.le_of_ble_eq_true rfl, Nat.le_of_ble_eq_true rfl⟩ dX9_bringAll_57 (fun v ty' w' hp hk' => ?_)
            obtain ⟨I8989, A8989, hI8989, hA8989, hV8989, rfl, rfl⟩ := hp
            show GW κ 3 0 0 (wX q d I8989 A8989) 60 [(2, .int x8798), (0, .ref (q 49)), (1, .int z1)] []
            obtain ⟨y8990, ey8990⟩ : ∃ y : Int32, y = x8798 + Int32.ofInt 1 := ⟨_, rfl⟩
            have hy8990 : y8990.toInt = x8798.toInt + 1 := i32_add ey8990 rfl (by decide) (by omega) (by omega)
            refine g_iinc (v := y8990) (lv' := [(2, .int y8990), (0, .ref (q 49)), (1, .int z1)]) hk 0 dX9_bringAll_60 rfl ey8990.symm (by decide) rfl ?_
            refine g_goto (tgt := 2) hk dX9_bringAll_63 (by decide) ?_
            exact g_lv (List.forall_mem_cons.mpr ⟨List.mem_of_getElem? (i := 0) rfl, (List.forall_mem_cons.mpr ⟨List.mem_of_getElem? (i := 1) rfl, (List.forall_mem_cons.mpr ⟨List.mem_of_getElem? (i := 2) rfl, (fun _ h => absurd h List.not_mem_nil)⟩)⟩)⟩) (ih8970 y8990 I8989 A8989 (show Md [28, 30, 31, 32] I I8989 from Md.tr hI8801 (show Md [28, 30, 31, 32] I8801 I8989 from (Md.tr (Md.tr Md.rf hI8986 rfl) hI8989 rfl)) rfl) (show Md [21, 30, 31] A A8989 from Md.tr hA8801 (show Md [21, 30, 31] A8801 A8989 from (Md.tr (Md.tr (Md.up3 Md.rf rfl) hA8986 rfl) hA8989 rfl)) rfl) hV8989 (by omega) (by omega) (by omega) (by omega))
        · skip
          show GW κ 3 0 0 (wX q d I8801 A8801) 26 [(2, .int x8798), (0, .ref (q 49)), (1, .int z1)] [.int 1, .int x8798, .ref (q 51)]
          have k8991 : (1 : Int32).toInt = 1 := rfl
          refine sX_31 (y := (vp_nar .boolean 1)) (j := x8798.toNatClampNeg) hk (vp_in_iff.mpr ⟨by omega, by omega⟩) rfl rfl dX9_bringAll_26 ?_
          refine g_aload_n hk dX9_bringAll_27 rfl ?_
          refine gX_r49_3 hk hin9 (List.mem_cons_of_mem _ (List.mem_append_left _ (List.mem_of_getElem? (i := 0) rfl))) dX9_bringAll_28 ?_
          refine g_iload_n hk dX9_bringAll_31 rfl ?_
          refine lX_31 hk (vp_in_iff.mpr ⟨by omega, by omega⟩) rfl dX9_bringAll_32 ?_
          refine g_topi (fun y8992 ey8992 => ?_)
          have b8993l := Int32.le_toInt y8992
          have b8993h := Int32.toInt_lt y8992
          refine g_if_eq (tgt := 60) (a := y8992.toInt) hk dX9_bringAll_33 (by decide) rfl (fun c8994 => ?_) (fun c8994 => ?_)
          · skip
            obtain ⟨y8995, ey8995⟩ : ∃ y : Int32, y = x8798 + Int32.ofInt 1 := ⟨_, rfl⟩
            have hy8995 : y8995.toInt = x8798.toInt + 1 := i32_add ey8995 rfl (by decide) (by omega) (by omega)
            refine g_iinc (v := y8995) (lv' := [(2, .int y8995), (0, .ref (q 49)), (1, .int z1)]) hk 0 dX9_bringAll_60 rfl ey8995.symm (by decide) rfl ?_
            refine g_goto (tgt := 2) hk dX9_bringAll_63 (by decide) ?_
            exact g_lv (List.forall_mem_cons.mpr ⟨List.mem_of_getElem? (i := 0) rfl, (List.forall_mem_cons.mpr ⟨List.mem_of_getElem? (i := 1) rfl, (List.forall_mem_cons.mpr ⟨List.mem_of_getElem? (i := 2) rfl, (fun _ h => absurd h List.not_mem_nil)⟩)⟩)⟩) (ih8970 y8995 I8801 (up3 A8801 31 (x8798.toNatClampNeg) (vp_nar .boolean 1)) (show Md [28, 30, 31, 32] I I8801 from Md.tr hI8801 (show Md [28, 30, 31, 32] I8801 I8801 from Md.rf) rfl) (show Md [21, 30, 31] A (up3 A8801 31 (x8798.toNatClampNeg) (vp_nar .boolean 1)) from Md.tr hA8801 (show Md [21, 30, 31] A8801 (up3 A8801 31 (x8798.toNatClampNeg) (vp_nar .boolean 1)) from (Md.up3 Md.rf rfl)) rfl) ⟨(IvX_f0 (I := I8801) (A := A8801) hV8801), (IvX_f18 (I := I8801) (A := A8801) hV8801), (IvX_f30 (I := I8801) (A := A8801) hV8801), (IvX_f31 (I := I8801) (A := A8801) hV8801), (IvX_a4 (I := I8801) (A := A8801) hV8801), (IvX_a9 (I := I8801) (A := A8801) hV8801), trivial⟩ (by omega) (by omega) (by omega) (by omega))
          · skip
            refine g_aload_n hk dX9_bringAll_36 rfl ?_
            refine gX_r49_0 hk hin9 (List.mem_cons_of_mem _ (List.mem_append_left _ (List.mem_of_getElem? (i := 1) rfl))) dX9_bringAll_37 ?_
            refine g_iload_n hk dX9_bringAll_40 rfl ?_
            refine g_iload_n hk dX9_bringAll_41 rfl ?_
            refine g_callV (n := 2) hk (k213_X0_openWindow l D zt q d I8801 (up3 A8801 31 (x8798.toNatClampNeg) (vp_nar .boolean 1)) x8798 z1 ⟨(IvX_f0 (I := I8801) (A := A8801) hV8801), (IvX_f18 (I := I8801) (A := A8801) hV8801), (IvX_f30 (I := I8801) (A := A8801) hV8801), (IvX_f31 (I := I8801) (A := A8801) hV8801), (IvX_a4 (I := I8801) (A := A8801) hV8801), (IvX_a9 (I := I8801) (A := A8801) hV8801), trivial⟩) (SP.same _) (fun _ h => h) (gi_V (List.mem_cons_of_mem _ (List.mem_append_left _ (List.mem_of_getElem? (i := 7) rfl))) (List.mem_cons_of_mem _ (List.mem_append_left _ (List.mem_of_getElem? (i := 8) rfl))) (List.mem_cons_of_mem _ (List.mem_append_left _ (List.mem_of_getElem? (i := 9) rfl))) (List.mem_cons_of_mem _ (List.mem_append_left _ (List.mem_of_getElem? (i := 10) rfl))) (gi_sub (fun w h => (List.mem_cons_of_mem _ (List.mem_append_right _ (List.mem_append_right _ (List.mem_append_right _ (List.mem_append_right _ (List.mem_append_left _ h))))))) zg_k213_X0_openWindow)) rfl rfl rfl (by decide +kernel) ⟨Nat.le_of_ble_eq_true rfl, Nat.le_of_ble_eq_true rfl⟩ 37 rfl rfl rfl rfl (Nat.le_of_ble_eq_true rfl) ⟨Nat.le_of_ble_eq_true rfl, Nat.le_of_ble_eq_true rfl⟩ dX9_bringAll_42 (fun v ty' w' hp hk' => ?_)
            obtain ⟨I8997, A8997, hI8997, hA8997, hV8997, rfl, rfl⟩ := hp
            show GW κ 3 0 0 (wX q d I8997 A8997) 45 [(2, .int x8798), (0, .ref (q 49)), (1, .int z1)] []
            refine g_aload_n hk dX9_bringAll_45 rfl ?_
            refine gX_r49_1 hk hin9 (List.mem_cons_of_mem _ (List.mem_append_left _ (List.mem_of_getElem? (i := 11) rfl))) dX9_bringAll_46 ?_
            refine g_aload_n hk dX9_bringAll_49 rfl ?_
            refine gX_r49_2 hk hin9 (List.mem_cons_of_mem _ (List.mem_append_left _ (List.mem_of_getElem? (i := 12) rfl))) dX9_bringAll_50 ?_
            refine g_iload_n hk dX9_bringAll_53 rfl ?_
            refine g_bipush (v := 16) hk dX9_bringAll_54 (by decide) ?_
            refine g_imul hk dX9_bringAll_56 ?_
            refine g_topi (fun y8998 ey8998 => ?_)
            have hy8998 : y8998.toInt = x8798.toInt * 16 := i32_mul ey8998 rfl rfl (by omega) (by omega)
            refine g_callV (n := 2) hk (k294_X2_giveLeft l D zt q d I8997 A8997 y8998 hV8997) (SP.same _) (fun _ h => h) (gi_V (List.mem_cons_of_mem _ (List.mem_append_left _ (List.mem_of_getElem? (i := 13) rfl))) (List.mem_cons_of_mem _ (List.mem_append_left _ (List.mem_of_getElem? (i := 14) rfl))) (List.mem_cons_of_mem _ (List.mem_append_left _ (List.mem_of_getElem? (i := 15) rfl))) (List.mem_cons_of_mem _ (List.mem_append_left _ (List.mem_of_getElem? (i := 16) rfl))) (gi_sub (fun w h => (List.mem_cons_of_mem _ (List.mem_append_right _ (List.mem_append_right _ (List.mem_append_right _ (List.mem_append_right _ (List.mem_append_right _ (List.mem_append_left _ h)))))))) zg_k294_X2_giveLeft)) rfl rfl rfl (by decide +kernel) ⟨Nat.le_of_ble_eq_true rfl, Nat.le_of_ble_eq_true rfl⟩ 38 rfl rfl rfl rfl (Nat.le_of_ble_eq_true rfl) ⟨Nat.le_of_ble_eq_true rfl, Nat.le_of_ble_eq_true rfl⟩ dX9_bringAll_57 (fun v ty' w' hp hk' => ?_)
            obtain ⟨I9000, A9000, hI9000, hA9000, hV9000, rfl, rfl⟩ := hp
            show GW κ 3 0 0 (wX q d I9000 A9000) 60 [(2, .int x8798), (0, .ref (q 49)), (1, .int z1)] []
            obtain ⟨y9001, ey9001⟩ : ∃ y : Int32, y = x8798 + Int32.ofInt 1 := ⟨_, rfl⟩
            have hy9001 : y9001.toInt = x8798.toInt + 1 := i32_add ey9001 rfl (by decide) (by omega) (by omega)
            refine g_iinc (v := y9001) (lv' := [(2, .int y9001), (0, .ref (q 49)), (1, .int z1)]) hk 0 dX9_bringAll_60 rfl ey9001.symm (by decide) rfl ?_
            refine g_goto (tgt := 2) hk dX9_bringAll_63 (by decide) ?_
            exact g_lv (List.forall_mem_cons.mpr ⟨List.mem_of_getElem? (i := 0) rfl, (List.forall_mem_cons.mpr ⟨List.mem_of_getElem? (i := 1) rfl, (List.forall_mem_cons.mpr ⟨List.mem_of_getElem? (i := 2) rfl, (fun _ h => absurd h List.not_mem_nil)⟩)⟩)⟩) (ih8970 y9001 I9000 A9000 (show Md [28, 30, 31, 32] I I9000 from Md.tr hI8801 (show Md [28, 30, 31, 32] I8801 I9000 from (Md.tr (Md.tr Md.rf hI8997 rfl) hI9000 rfl)) rfl) (show Md [21, 30, 31] A A9000 from Md.tr hA8801 (show Md [21, 30, 31] A8801 A9000 from (Md.tr (Md.tr (Md.up3 Md.rf rfl) hA8997 rfl) hA9000 rfl)) rfl) hV9000 (by omega) (by omega) (by omega) (by omega))
  have k9003 : (0 : Int32).toInt = 0 := rfl
  obtain ⟨n9002, n9002a, n9002b⟩ : ∃ n : Nat, 161 - 0 < (n : Int) ∧ 0 < n := ⟨((161 - 0 : Int)).toNat + 1, by omega, by omega⟩
  exact lp8967 n9002 0 I A Md.rf Md.rf hIv (by omega) (by omega) n9002a n9002b
def wo_k298_X2_copyRow : List Cond := [Cond.fieldLink RX2 24 "WarpDesk$Fit" "length" "I"]
def wz_k298_X2_copyRow : List Cond := .code yX2_copyRow cX2_copyRow 6 none :: (wo_k298_X2_copyRow ++ (wsX20 ++ ([] : List Cond)))
theorem zg_k298_X2_copyRow : ∀ w ∈ wz_k298_X2_copyRow, goodWord w = true := zg_cons rfl (zg_app (by decide +kernel) (zg_app zgU_wsX20 zg_nil))
theorem zi_k298_X2_copyRow : ∀ w ∈ wz_k298_X2_copyRow, w ∈ lw_tbl := zi_cons zw_1268 (zi_app (zi_cons zw_343 zi_nil) (zi_app inX2 zi_nil))
set_option maxHeartbeats 4000000 in
set_option maxRecDepth 100000 in
theorem k298_X2_copyRow (l : Launch) (D : va_G) (zt : Nat × Nat × Nat × (Nat → Nat) × (Nat → Nat)) (q : Nat → Nat) (d : Nat → ClassId) (I : Nat → Int32) (A : Nat → Nat → Int32) (z2 : Int32) (z4 : Int32) (hIv : IvX I A) : GM l D zt (tyX d) yX2_copyRow wz_k298_X2_copyRow ({ frames := 0, cells := 0, slots := 0, locals := 0 } : Room) [.ref (q 38), .ref (q 50), .int z2, .ref (q 39), .int z4] (wX q d I A) (fun v _ w' => ∃ (I' : Nat → Int32) (A' : Nat → Nat → Int32), Md [] I I' ∧ Md [21] A A' ∧ IvX I' A' ∧ v = none ∧ w' = wX q d I' A') 0 0 := by
  refine GM.of (cc := cX2_copyRow) (maxL := 6) (ret := none) (own := RX2) (lv := [(0, .ref (q 38)), (1, .ref (q 50)), (2, .int z2), (3, .ref (q 39)), (4, .int z4)]) (by decide) rfl rfl (Nat.le_of_ble_eq_true rfl) rfl (fun κ sz hk hR hN => ?_)
  have hin2 : ∀ w ∈ u_ws RX2 TX2 10, w ∈ wz_k298_X2_copyRow := fun w h => (List.mem_cons_of_mem _ (List.mem_append_right _ (List.mem_append_left _ h)))
  refine g_iload_n hk dX2_copyRow_0 rfl ?_
  have b9008l := Int32.le_toInt z2
  have b9008h := Int32.toInt_lt z2
  refine g_if_lt (tgt := 32) (a := z2.toInt) hk dX2_copyRow_1 (by decide) rfl (fun c9009 => ?_) (fun c9009 => ?_)
  · skip
    exact g_vret hk hR ⟨I, A, (show Md [] I I from Md.rf), (show Md [21] A A from Md.rf), hIv, rfl, rfl⟩ dX2_copyRow_32
  · skip
    refine g_iload hk dX2_copyRow_4 rfl ?_
    have b9010l := Int32.le_toInt z4
    have b9010h := Int32.toInt_lt z4
    refine g_if_lt (tgt := 32) (a := z4.toInt) hk dX2_copyRow_6 (by decide) rfl (fun c9011 => ?_) (fun c9011 => ?_)
    · skip
      exact g_vret hk hR ⟨I, A, (show Md [] I I from Md.rf), (show Md [21] A A from Md.rf), hIv, rfl, rfl⟩ dX2_copyRow_32
    · skip
      refine g_aload_n hk dX2_copyRow_9 rfl ?_
      refine gX_i30 (v := (I 30)) hk hin2 (List.mem_cons_of_mem _ (List.mem_append_left _ (List.mem_of_getElem? (i := 0) rfl))) dX2_copyRow_10 rfl ?_
      have f9012 := IvX_f30 hIv
      refine g_aload_n hk dX2_copyRow_13 rfl ?_
      refine nX_30 hk dX2_copyRow_14 ?_
      refine g_iload_n hk dX2_copyRow_15 rfl ?_
      refine g_isub hk dX2_copyRow_16 ?_
      refine g_topi (fun y9013 ey9013 => ?_)
      have hy9013 : y9013.toInt = 2560 - z2.toInt := i32_sub ey9013 rfl rfl (by omega) (by omega)
      refine g_icmp_gt (tgt := 32) (a := (I 30).toInt) (b := y9013.toInt) hk dX2_copyRow_17 (by decide) rfl rfl (fun c9014 => ?_) (fun c9014 => ?_)
      · skip
        exact g_vret hk hR ⟨I, A, (show Md [] I I from Md.rf), (show Md [21] A A from Md.rf), hIv, rfl, rfl⟩ dX2_copyRow_32
      · skip
        refine g_aload_n hk dX2_copyRow_20 rfl ?_
        refine gX_i30 (v := (I 30)) hk hin2 (List.mem_cons_of_mem _ (List.mem_append_left _ (List.mem_of_getElem? (i := 0) rfl))) dX2_copyRow_21 rfl ?_
        refine g_aload_n hk dX2_copyRow_24 rfl ?_
        refine nX_21 hk dX2_copyRow_25 ?_
        refine g_iload hk dX2_copyRow_26 rfl ?_
        refine g_isub hk dX2_copyRow_28 ?_
        refine g_topi (fun y9015 ey9015 => ?_)
        have hy9015 : y9015.toInt = 16 - z4.toInt := i32_sub ey9015 rfl rfl (by omega) (by omega)
        refine g_icmp_le (tgt := 33) (a := (I 30).toInt) (b := y9015.toInt) hk dX2_copyRow_29 (by decide) rfl rfl (fun c9016 => ?_) (fun c9016 => ?_)
        · skip
          refine g_iconst (v := 0) hk dX2_copyRow_33 (by decide) ?_
          refine g_istore (lv' := [(5, .int 0), (0, .ref (q 38)), (1, .ref (q 50)), (2, .int z2), (3, .ref (q 39)), (4, .int z4)]) hk dX2_copyRow_34 (by decide) rfl ?_
          have lp9041 : ∀ (n9042 : Nat) (x9017 : Int32) (I9023 : Nat → Int32) (A9023 : Nat → Nat → Int32), (Md [] I I9023) → (Md [21] A A9023) → (IvX I9023 A9023) → (0 ≤ x9017.toInt) → (x9017.toInt ≤ 16) → (17 - x9017.toInt < (n9042 : Int)) → (0 < n9042) → GW κ 6 0 0 (wX q d I9023 A9023) 36 [(5, .int x9017), (0, .ref (q 38)), (1, .ref (q 50)), (2, .int z2), (3, .ref (q 39)), (4, .int z4)] [] := by
            intro n9042
            induction n9042 with
            | zero =>
              intro x9017 I9023 A9023 hI9023 hA9023 hV9023 h9039 h9040 m9043 m9043z
              exact absurd m9043z (Nat.lt_irrefl 0)
            | succ n9042 ih9044 =>
              intro x9017 I9023 A9023 hI9023 hA9023 hV9023 h9039 h9040 m9043 m9043z
              refine g_iload hk dX2_copyRow_36 rfl ?_
              refine g_aload_n hk dX2_copyRow_38 rfl ?_
              refine gX_i30 (v := (I 30)) hk hin2 (List.mem_cons_of_mem _ (List.mem_append_left _ (List.mem_of_getElem? (i := 0) rfl))) dX2_copyRow_39 (hI9023 30 rfl) ?_
              refine g_icmp_ge (tgt := 64) (a := x9017.toInt) (b := (I 30).toInt) hk dX2_copyRow_42 (by decide) rfl rfl (fun c9045 => ?_) (fun c9045 => ?_)
              · skip
                exact g_vret hk hR ⟨I9023, A9023, (show Md [] I I9023 from (Md.tr Md.rf hI9023 rfl)), (show Md [21] A A9023 from (Md.tr Md.rf hA9023 rfl)), hV9023, rfl, rfl⟩ dX2_copyRow_64
              · skip
                refine g_aload_n hk dX2_copyRow_45 rfl ?_
                refine g_iload hk dX2_copyRow_46 rfl ?_
                refine g_iload hk dX2_copyRow_48 rfl ?_
                refine g_iadd hk dX2_copyRow_50 ?_
                refine g_topi (fun y9046 ey9046 => ?_)
                have hy9046 : y9046.toInt = z4.toInt + x9017.toInt := i32_add ey9046 rfl rfl (by omega) (by omega)
                refine g_aload_n hk dX2_copyRow_51 rfl ?_
                refine g_iload_n hk dX2_copyRow_52 rfl ?_
                refine g_iload hk dX2_copyRow_53 rfl ?_
                refine g_iadd hk dX2_copyRow_55 ?_
                refine g_topi (fun y9047 ey9047 => ?_)
                have hy9047 : y9047.toInt = z2.toInt + x9017.toInt := i32_add ey9047 rfl rfl (by omega) (by omega)
                refine lX_30 (v := (A 30 y9047.toNatClampNeg)) hk (vp_in_iff.mpr ⟨by omega, by omega⟩) (congrFun (hA9023 30 rfl) _) dX2_copyRow_56 ?_
                refine sX_21 (j := y9046.toNatClampNeg) hk (vp_in_iff.mpr ⟨by omega, by omega⟩) rfl dX2_copyRow_57 ?_
                obtain ⟨y9048, ey9048⟩ : ∃ y : Int32, y = x9017 + Int32.ofInt 1 := ⟨_, rfl⟩
                have hy9048 : y9048.toInt = x9017.toInt + 1 := i32_add ey9048 rfl (by decide) (by omega) (by omega)
                refine g_iinc (v := y9048) (lv' := [(5, .int y9048), (0, .ref (q 38)), (1, .ref (q 50)), (2, .int z2), (3, .ref (q 39)), (4, .int z4)]) hk 0 dX2_copyRow_58 rfl ey9048.symm (by decide) rfl ?_
                refine g_goto (tgt := 36) hk dX2_copyRow_61 (by decide) ?_
                exact g_lv (List.forall_mem_cons.mpr ⟨List.mem_of_getElem? (i := 0) rfl, (List.forall_mem_cons.mpr ⟨List.mem_of_getElem? (i := 1) rfl, (List.forall_mem_cons.mpr ⟨List.mem_of_getElem? (i := 2) rfl, (List.forall_mem_cons.mpr ⟨List.mem_of_getElem? (i := 3) rfl, (List.forall_mem_cons.mpr ⟨List.mem_of_getElem? (i := 4) rfl, (List.forall_mem_cons.mpr ⟨List.mem_of_getElem? (i := 5) rfl, (fun _ h => absurd h List.not_mem_nil)⟩)⟩)⟩)⟩)⟩)⟩) (ih9044 y9048 I9023 (up3 A9023 21 (y9046.toNatClampNeg) (A 30 y9047.toNatClampNeg)) (show Md [] I I9023 from Md.tr hI9023 (show Md [] I9023 I9023 from Md.rf) rfl) (show Md [21] A (up3 A9023 21 (y9046.toNatClampNeg) (A 30 y9047.toNatClampNeg)) from Md.tr hA9023 (show Md [21] A9023 (up3 A9023 21 (y9046.toNatClampNeg) (A 30 y9047.toNatClampNeg)) from (Md.up3 Md.rf rfl)) rfl) ⟨(IvX_f0 (I := I9023) (A := A9023) hV9023), (IvX_f18 (I := I9023) (A := A9023) hV9023), (IvX_f30 (I := I9023) (A := A9023) hV9023), (IvX_f31 (I := I9023) (A := A9023) hV9023), (IvX_a4 (I := I9023) (A := A9023) hV9023), (IvX_a9 (I := I9023) (A := A9023) hV9023), trivial⟩ (by omega) (by omega) (by omega) (by omega))
          have k9050 : (0 : Int32).toInt = 0 := rfl
          obtain ⟨n9049, n9049a, n9049b⟩ : ∃ n : Nat, 17 - 0 < (n : Int) ∧ 0 < n := ⟨((17 - 0 : Int)).toNat + 1, by omega, by omega⟩
          exact lp9041 n9049 0 I A Md.rf Md.rf hIv (by omega) (by omega) n9049a n9049b
        · skip
          exact g_vret hk hR ⟨I, A, (show Md [] I I from Md.rf), (show Md [21] A A from Md.rf), hIv, rfl, rfl⟩ dX2_copyRow_32
def wo_k297_X2_takeLeft : List Cond := [Cond.fieldLink RX2 9 "WarpDesk$Fit" "left" "[I", Cond.methodLink RX2 46 yX2_copyRow, Cond.instanceMethod yX2_copyRow, Cond.selects RX2 yX2_copyRow yX2_copyRow, Cond.initialized RX2]
def wz_k297_X2_takeLeft : List Cond := .code yX2_takeLeft cX2_takeLeft 3 none :: (wo_k297_X2_takeLeft ++ (wsX20 ++ (wz_k298_X2_copyRow ++ ([] : List Cond))))
theorem zg_k297_X2_takeLeft : ∀ w ∈ wz_k297_X2_takeLeft, goodWord w = true := zg_cons rfl (zg_app (by decide +kernel) (zg_app zgU_wsX20 (zg_app zg_k298_X2_copyRow zg_nil)))
theorem zi_k297_X2_takeLeft : ∀ w ∈ wz_k297_X2_takeLeft, w ∈ lw_tbl := zi_cons zw_1277 (zi_app (zi_cons zw_334 (zi_cons zw_1265 (zi_cons zw_1267 (zi_cons zw_40 (zi_cons zw_112 zi_nil))))) (zi_app inX2 (zi_app zi_k298_X2_copyRow zi_nil)))
set_option maxHeartbeats 4000000 in
set_option maxRecDepth 100000 in
theorem k297_X2_takeLeft (l : Launch) (D : va_G) (zt : Nat × Nat × Nat × (Nat → Nat) × (Nat → Nat)) (q : Nat → Nat) (d : Nat → ClassId) (I : Nat → Int32) (A : Nat → Nat → Int32) (z2 : Int32) (hIv : IvX I A) : GM l D zt (tyX d) yX2_takeLeft wz_k297_X2_takeLeft ({ frames := 1, cells := 0, slots := 0, locals := 25 } : Room) [.ref (q 38), .ref (q 50), .int z2] (wX q d I A) (fun v _ w' => ∃ (I' : Nat → Int32) (A' : Nat → Nat → Int32), Md [] I I' ∧ Md [21] A A' ∧ IvX I' A' ∧ v = none ∧ w' = wX q d I' A') 0 0 := by
  refine GM.of (cc := cX2_takeLeft) (maxL := 3) (ret := none) (own := RX2) (lv := [(0, .ref (q 38)), (1, .ref (q 50)), (2, .int z2)]) (by decide) rfl rfl (Nat.le_of_ble_eq_true rfl) rfl (fun κ sz hk hR hN => ?_)
  have hin2 : ∀ w ∈ u_ws RX2 TX2 10, w ∈ wz_k297_X2_takeLeft := fun w h => (List.mem_cons_of_mem _ (List.mem_append_right _ (List.mem_append_left _ h)))
  refine g_aload_n hk dX2_takeLeft_0 rfl ?_
  refine g_aload_n hk dX2_takeLeft_1 rfl ?_
  refine g_iload_n hk dX2_takeLeft_2 rfl ?_
  refine g_aload_n hk dX2_takeLeft_3 rfl ?_
  refine gX_r38_0 hk hin2 (List.mem_cons_of_mem _ (List.mem_append_left _ (List.mem_of_getElem? (i := 0) rfl))) dX2_takeLeft_4 ?_
  refine g_iconst (v := 0) hk dX2_takeLeft_7 (by decide) ?_
  have k9051 : (0 : Int32).toInt = 0 := rfl
  refine g_callV (n := 4) hk (k298_X2_copyRow l D zt q d I A z2 0 hIv) (SP.same _) (fun _ h => h) (gi_V (List.mem_cons_of_mem _ (List.mem_append_left _ (List.mem_of_getElem? (i := 1) rfl))) (List.mem_cons_of_mem _ (List.mem_append_left _ (List.mem_of_getElem? (i := 2) rfl))) (List.mem_cons_of_mem _ (List.mem_append_left _ (List.mem_of_getElem? (i := 3) rfl))) (List.mem_cons_of_mem _ (List.mem_append_left _ (List.mem_of_getElem? (i := 4) rfl))) (gi_sub (fun w h => (List.mem_cons_of_mem _ (List.mem_append_right _ (List.mem_append_right _ (List.mem_append_left _ h))))) zg_k298_X2_copyRow)) rfl rfl rfl (by decide +kernel) ⟨Nat.le_of_ble_eq_true rfl, Nat.le_of_ble_eq_true rfl⟩ 38 rfl rfl rfl rfl (Nat.le_of_ble_eq_true rfl) ⟨Nat.le_of_ble_eq_true rfl, Nat.le_of_ble_eq_true rfl⟩ dX2_takeLeft_8 (fun v ty' w' hp hk' => ?_)
  obtain ⟨I9053, A9053, hI9053, hA9053, hV9053, rfl, rfl⟩ := hp
  show GW κ 3 0 0 (wX q d I9053 A9053) 11 [(0, .ref (q 38)), (1, .ref (q 50)), (2, .int z2)] []
  exact g_vret hk hR ⟨I9053, A9053, (show Md [] I I9053 from (Md.tr Md.rf hI9053 rfl)), (show Md [21] A A9053 from (Md.tr Md.rf hA9053 rfl)), hV9053, rfl, rfl⟩ dX2_takeLeft_11
def wo_k300_X2_copyRow : List Cond := [Cond.fieldLink RX2 24 "WarpDesk$Fit" "length" "I"]
def wz_k300_X2_copyRow : List Cond := .code yX2_copyRow cX2_copyRow 6 none :: (wo_k300_X2_copyRow ++ (wsX20 ++ ([] : List Cond)))
theorem zg_k300_X2_copyRow : ∀ w ∈ wz_k300_X2_copyRow, goodWord w = true := zg_cons rfl (zg_app (by decide +kernel) (zg_app zgU_wsX20 zg_nil))
theorem zi_k300_X2_copyRow : ∀ w ∈ wz_k300_X2_copyRow, w ∈ lw_tbl := zi_cons zw_1268 (zi_app (zi_cons zw_343 zi_nil) (zi_app inX2 zi_nil))
set_option maxHeartbeats 4000000 in
set_option maxRecDepth 100000 in
theorem k300_X2_copyRow (l : Launch) (D : va_G) (zt : Nat × Nat × Nat × (Nat → Nat) × (Nat → Nat)) (q : Nat → Nat) (d : Nat → ClassId) (I : Nat → Int32) (A : Nat → Nat → Int32) (z2 : Int32) (z4 : Int32) (hIv : IvX I A) : GM l D zt (tyX d) yX2_copyRow wz_k300_X2_copyRow ({ frames := 0, cells := 0, slots := 0, locals := 0 } : Room) [.ref (q 38), .ref (q 50), .int z2, .ref (q 40), .int z4] (wX q d I A) (fun v _ w' => ∃ (I' : Nat → Int32) (A' : Nat → Nat → Int32), Md [] I I' ∧ Md [22] A A' ∧ IvX I' A' ∧ v = none ∧ w' = wX q d I' A') 0 0 := by
  refine GM.of (cc := cX2_copyRow) (maxL := 6) (ret := none) (own := RX2) (lv := [(0, .ref (q 38)), (1, .ref (q 50)), (2, .int z2), (3, .ref (q 40)), (4, .int z4)]) (by decide) rfl rfl (Nat.le_of_ble_eq_true rfl) rfl (fun κ sz hk hR hN => ?_)
  have hin2 : ∀ w ∈ u_ws RX2 TX2 10, w ∈ wz_k300_X2_copyRow := fun w h => (List.mem_cons_of_mem _ (List.mem_append_right _ (List.mem_append_left _ h)))
  refine g_iload_n hk dX2_copyRow_0 rfl ?_
  have b9073l := Int32.le_toInt z2
  have b9073h := Int32.toInt_lt z2
  refine g_if_lt (tgt := 32) (a := z2.toInt) hk dX2_copyRow_1 (by decide) rfl (fun c9074 => ?_) (fun c9074 => ?_)
  · skip
    exact g_vret hk hR ⟨I, A, (show Md [] I I from Md.rf), (show Md [22] A A from Md.rf), hIv, rfl, rfl⟩ dX2_copyRow_32
  · skip
    refine g_iload hk dX2_copyRow_4 rfl ?_
    have b9075l := Int32.le_toInt z4
    have b9075h := Int32.toInt_lt z4
    refine g_if_lt (tgt := 32) (a := z4.toInt) hk dX2_copyRow_6 (by decide) rfl (fun c9076 => ?_) (fun c9076 => ?_)
    · skip
      exact g_vret hk hR ⟨I, A, (show Md [] I I from Md.rf), (show Md [22] A A from Md.rf), hIv, rfl, rfl⟩ dX2_copyRow_32
    · skip
      refine g_aload_n hk dX2_copyRow_9 rfl ?_
      refine gX_i30 (v := (I 30)) hk hin2 (List.mem_cons_of_mem _ (List.mem_append_left _ (List.mem_of_getElem? (i := 0) rfl))) dX2_copyRow_10 rfl ?_
      have f9077 := IvX_f30 hIv
      refine g_aload_n hk dX2_copyRow_13 rfl ?_
      refine nX_30 hk dX2_copyRow_14 ?_
      refine g_iload_n hk dX2_copyRow_15 rfl ?_
      refine g_isub hk dX2_copyRow_16 ?_
      refine g_topi (fun y9078 ey9078 => ?_)
      have hy9078 : y9078.toInt = 2560 - z2.toInt := i32_sub ey9078 rfl rfl (by omega) (by omega)
      refine g_icmp_gt (tgt := 32) (a := (I 30).toInt) (b := y9078.toInt) hk dX2_copyRow_17 (by decide) rfl rfl (fun c9079 => ?_) (fun c9079 => ?_)
      · skip
        exact g_vret hk hR ⟨I, A, (show Md [] I I from Md.rf), (show Md [22] A A from Md.rf), hIv, rfl, rfl⟩ dX2_copyRow_32
      · skip
        refine g_aload_n hk dX2_copyRow_20 rfl ?_
        refine gX_i30 (v := (I 30)) hk hin2 (List.mem_cons_of_mem _ (List.mem_append_left _ (List.mem_of_getElem? (i := 0) rfl))) dX2_copyRow_21 rfl ?_
        refine g_aload_n hk dX2_copyRow_24 rfl ?_
        refine nX_22 hk dX2_copyRow_25 ?_
        refine g_iload hk dX2_copyRow_26 rfl ?_
        refine g_isub hk dX2_copyRow_28 ?_
        refine g_topi (fun y9080 ey9080 => ?_)
        have hy9080 : y9080.toInt = 16 - z4.toInt := i32_sub ey9080 rfl rfl (by omega) (by omega)
        refine g_icmp_le (tgt := 33) (a := (I 30).toInt) (b := y9080.toInt) hk dX2_copyRow_29 (by decide) rfl rfl (fun c9081 => ?_) (fun c9081 => ?_)
        · skip
          refine g_iconst (v := 0) hk dX2_copyRow_33 (by decide) ?_
          refine g_istore (lv' := [(5, .int 0), (0, .ref (q 38)), (1, .ref (q 50)), (2, .int z2), (3, .ref (q 40)), (4, .int z4)]) hk dX2_copyRow_34 (by decide) rfl ?_
          have lp9106 : ∀ (n9107 : Nat) (x9082 : Int32) (I9088 : Nat → Int32) (A9088 : Nat → Nat → Int32), (Md [] I I9088) → (Md [22] A A9088) → (IvX I9088 A9088) → (0 ≤ x9082.toInt) → (x9082.toInt ≤ 16) → (17 - x9082.toInt < (n9107 : Int)) → (0 < n9107) → GW κ 6 0 0 (wX q d I9088 A9088) 36 [(5, .int x9082), (0, .ref (q 38)), (1, .ref (q 50)), (2, .int z2), (3, .ref (q 40)), (4, .int z4)] [] := by
            intro n9107
            induction n9107 with
            | zero =>
              intro x9082 I9088 A9088 hI9088 hA9088 hV9088 h9104 h9105 m9108 m9108z
              exact absurd m9108z (Nat.lt_irrefl 0)
            | succ n9107 ih9109 =>
              intro x9082 I9088 A9088 hI9088 hA9088 hV9088 h9104 h9105 m9108 m9108z
              refine g_iload hk dX2_copyRow_36 rfl ?_
              refine g_aload_n hk dX2_copyRow_38 rfl ?_
              refine gX_i30 (v := (I 30)) hk hin2 (List.mem_cons_of_mem _ (List.mem_append_left _ (List.mem_of_getElem? (i := 0) rfl))) dX2_copyRow_39 (hI9088 30 rfl) ?_
              refine g_icmp_ge (tgt := 64) (a := x9082.toInt) (b := (I 30).toInt) hk dX2_copyRow_42 (by decide) rfl rfl (fun c9110 => ?_) (fun c9110 => ?_)
              · skip
                exact g_vret hk hR ⟨I9088, A9088, (show Md [] I I9088 from (Md.tr Md.rf hI9088 rfl)), (show Md [22] A A9088 from (Md.tr Md.rf hA9088 rfl)), hV9088, rfl, rfl⟩ dX2_copyRow_64
              · skip
                refine g_aload_n hk dX2_copyRow_45 rfl ?_
                refine g_iload hk dX2_copyRow_46 rfl ?_
                refine g_iload hk dX2_copyRow_48 rfl ?_
                refine g_iadd hk dX2_copyRow_50 ?_
                refine g_topi (fun y9111 ey9111 => ?_)
                have hy9111 : y9111.toInt = z4.toInt + x9082.toInt := i32_add ey9111 rfl rfl (by omega) (by omega)
                refine g_aload_n hk dX2_copyRow_51 rfl ?_
                refine g_iload_n hk dX2_copyRow_52 rfl ?_
                refine g_iload hk dX2_copyRow_53 rfl ?_
                refine g_iadd hk dX2_copyRow_55 ?_
                refine g_topi (fun y9112 ey9112 => ?_)
                have hy9112 : y9112.toInt = z2.toInt + x9082.toInt := i32_add ey9112 rfl rfl (by omega) (by omega)
                refine lX_30 (v := (A 30 y9112.toNatClampNeg)) hk (vp_in_iff.mpr ⟨by omega, by omega⟩) (congrFun (hA9088 30 rfl) _) dX2_copyRow_56 ?_
                refine sX_22 (j := y9111.toNatClampNeg) hk (vp_in_iff.mpr ⟨by omega, by omega⟩) rfl dX2_copyRow_57 ?_
                obtain ⟨y9113, ey9113⟩ : ∃ y : Int32, y = x9082 + Int32.ofInt 1 := ⟨_, rfl⟩
                have hy9113 : y9113.toInt = x9082.toInt + 1 := i32_add ey9113 rfl (by decide) (by omega) (by omega)
                refine g_iinc (v := y9113) (lv' := [(5, .int y9113), (0, .ref (q 38)), (1, .ref (q 50)), (2, .int z2), (3, .ref (q 40)), (4, .int z4)]) hk 0 dX2_copyRow_58 rfl ey9113.symm (by decide) rfl ?_
                refine g_goto (tgt := 36) hk dX2_copyRow_61 (by decide) ?_
                exact g_lv (List.forall_mem_cons.mpr ⟨List.mem_of_getElem? (i := 0) rfl, (List.forall_mem_cons.mpr ⟨List.mem_of_getElem? (i := 1) rfl, (List.forall_mem_cons.mpr ⟨List.mem_of_getElem? (i := 2) rfl, (List.forall_mem_cons.mpr ⟨List.mem_of_getElem? (i := 3) rfl, (List.forall_mem_cons.mpr ⟨List.mem_of_getElem? (i := 4) rfl, (List.forall_mem_cons.mpr ⟨List.mem_of_getElem? (i := 5) rfl, (fun _ h => absurd h List.not_mem_nil)⟩)⟩)⟩)⟩)⟩)⟩) (ih9109 y9113 I9088 (up3 A9088 22 (y9111.toNatClampNeg) (A 30 y9112.toNatClampNeg)) (show Md [] I I9088 from Md.tr hI9088 (show Md [] I9088 I9088 from Md.rf) rfl) (show Md [22] A (up3 A9088 22 (y9111.toNatClampNeg) (A 30 y9112.toNatClampNeg)) from Md.tr hA9088 (show Md [22] A9088 (up3 A9088 22 (y9111.toNatClampNeg) (A 30 y9112.toNatClampNeg)) from (Md.up3 Md.rf rfl)) rfl) ⟨(IvX_f0 (I := I9088) (A := A9088) hV9088), (IvX_f18 (I := I9088) (A := A9088) hV9088), (IvX_f30 (I := I9088) (A := A9088) hV9088), (IvX_f31 (I := I9088) (A := A9088) hV9088), (IvX_a4 (I := I9088) (A := A9088) hV9088), (IvX_a9 (I := I9088) (A := A9088) hV9088), trivial⟩ (by omega) (by omega) (by omega) (by omega))
          have k9115 : (0 : Int32).toInt = 0 := rfl
          obtain ⟨n9114, n9114a, n9114b⟩ : ∃ n : Nat, 17 - 0 < (n : Int) ∧ 0 < n := ⟨((17 - 0 : Int)).toNat + 1, by omega, by omega⟩
          exact lp9106 n9114 0 I A Md.rf Md.rf hIv (by omega) (by omega) n9114a n9114b
        · skip
          exact g_vret hk hR ⟨I, A, (show Md [] I I from Md.rf), (show Md [22] A A from Md.rf), hIv, rfl, rfl⟩ dX2_copyRow_32
def wo_k299_X2_takeRight : List Cond := [Cond.fieldLink RX2 15 "WarpDesk$Fit" "right" "[I", Cond.methodLink RX2 46 yX2_copyRow, Cond.instanceMethod yX2_copyRow, Cond.selects RX2 yX2_copyRow yX2_copyRow, Cond.initialized RX2]
def wz_k299_X2_takeRight : List Cond := .code yX2_takeRight cX2_takeRight 3 none :: (wo_k299_X2_takeRight ++ (wsX20 ++ (wz_k300_X2_copyRow ++ ([] : List Cond))))
theorem zg_k299_X2_takeRight : ∀ w ∈ wz_k299_X2_takeRight, goodWord w = true := zg_cons rfl (zg_app (by decide +kernel) (zg_app zgU_wsX20 (zg_app zg_k300_X2_copyRow zg_nil)))
theorem zi_k299_X2_takeRight : ∀ w ∈ wz_k299_X2_takeRight, w ∈ lw_tbl := zi_cons zw_1282 (zi_app (zi_cons zw_337 (zi_cons zw_1265 (zi_cons zw_1267 (zi_cons zw_40 (zi_cons zw_112 zi_nil))))) (zi_app inX2 (zi_app zi_k300_X2_copyRow zi_nil)))
set_option maxHeartbeats 4000000 in
set_option maxRecDepth 100000 in
theorem k299_X2_takeRight (l : Launch) (D : va_G) (zt : Nat × Nat × Nat × (Nat → Nat) × (Nat → Nat)) (q : Nat → Nat) (d : Nat → ClassId) (I : Nat → Int32) (A : Nat → Nat → Int32) (z2 : Int32) (hIv : IvX I A) : GM l D zt (tyX d) yX2_takeRight wz_k299_X2_takeRight ({ frames := 1, cells := 0, slots := 0, locals := 25 } : Room) [.ref (q 38), .ref (q 50), .int z2] (wX q d I A) (fun v _ w' => ∃ (I' : Nat → Int32) (A' : Nat → Nat → Int32), Md [] I I' ∧ Md [22] A A' ∧ IvX I' A' ∧ v = none ∧ w' = wX q d I' A') 0 0 := by
  refine GM.of (cc := cX2_takeRight) (maxL := 3) (ret := none) (own := RX2) (lv := [(0, .ref (q 38)), (1, .ref (q 50)), (2, .int z2)]) (by decide) rfl rfl (Nat.le_of_ble_eq_true rfl) rfl (fun κ sz hk hR hN => ?_)
  have hin2 : ∀ w ∈ u_ws RX2 TX2 10, w ∈ wz_k299_X2_takeRight := fun w h => (List.mem_cons_of_mem _ (List.mem_append_right _ (List.mem_append_left _ h)))
  refine g_aload_n hk dX2_takeRight_0 rfl ?_
  refine g_aload_n hk dX2_takeRight_1 rfl ?_
  refine g_iload_n hk dX2_takeRight_2 rfl ?_
  refine g_aload_n hk dX2_takeRight_3 rfl ?_
  refine gX_r38_1 hk hin2 (List.mem_cons_of_mem _ (List.mem_append_left _ (List.mem_of_getElem? (i := 0) rfl))) dX2_takeRight_4 ?_
  refine g_iconst (v := 0) hk dX2_takeRight_7 (by decide) ?_
  have k9116 : (0 : Int32).toInt = 0 := rfl
  refine g_callV (n := 4) hk (k300_X2_copyRow l D zt q d I A z2 0 hIv) (SP.same _) (fun _ h => h) (gi_V (List.mem_cons_of_mem _ (List.mem_append_left _ (List.mem_of_getElem? (i := 1) rfl))) (List.mem_cons_of_mem _ (List.mem_append_left _ (List.mem_of_getElem? (i := 2) rfl))) (List.mem_cons_of_mem _ (List.mem_append_left _ (List.mem_of_getElem? (i := 3) rfl))) (List.mem_cons_of_mem _ (List.mem_append_left _ (List.mem_of_getElem? (i := 4) rfl))) (gi_sub (fun w h => (List.mem_cons_of_mem _ (List.mem_append_right _ (List.mem_append_right _ (List.mem_append_left _ h))))) zg_k300_X2_copyRow)) rfl rfl rfl (by decide +kernel) ⟨Nat.le_of_ble_eq_true rfl, Nat.le_of_ble_eq_true rfl⟩ 38 rfl rfl rfl rfl (Nat.le_of_ble_eq_true rfl) ⟨Nat.le_of_ble_eq_true rfl, Nat.le_of_ble_eq_true rfl⟩ dX2_takeRight_8 (fun v ty' w' hp hk' => ?_)
  obtain ⟨I9118, A9118, hI9118, hA9118, hV9118, rfl, rfl⟩ := hp
  show GW κ 3 0 0 (wX q d I9118 A9118) 11 [(0, .ref (q 38)), (1, .ref (q 50)), (2, .int z2)] []
  exact g_vret hk hR ⟨I9118, A9118, (show Md [] I I9118 from (Md.tr Md.rf hI9118 rfl)), (show Md [22] A A9118 from (Md.tr Md.rf hA9118 rfl)), hV9118, rfl, rfl⟩ dX2_takeRight_11
def wo_k296_X9_findNearest : List Cond := [Cond.fieldLink RX9 58 "WarpDesk$Stretches" "nearest" "I", Cond.fieldLink RX9 62 "WarpDesk$Stretches" "nearestDistance" "I", Cond.constant RX9 65 (2147483647), Cond.fieldLink RX9 29 "WarpDesk$Stretches" "fit" "LWarpDesk$Fit;", Cond.fieldLink RX9 9 "WarpDesk$Stretches" "rows" "[I", Cond.methodLink RX9 66 yX2_takeLeft, Cond.instanceMethod yX2_takeLeft, Cond.selects RX2 yX2_takeLeft yX2_takeLeft, Cond.initialized RX2, Cond.fieldLink RX9 15 "WarpDesk$Stretches" "isThere" "[Z", Cond.methodLink RX9 69 Lib.Math.abs.name, Cond.static Lib.Math.abs.name, Cond.initialized "java/lang/Math", Cond.code Lib.Math.abs.name Lib.Math.abs.code 1 (some .int), Cond.methodLink RX9 75 yX2_takeRight, Cond.instanceMethod yX2_takeRight, Cond.selects RX2 yX2_takeRight yX2_takeRight, Cond.methodLink RX9 78 yX2_isLess, Cond.instanceMethod yX2_isLess, Cond.selects RX2 yX2_isLess yX2_isLess, Cond.methodLink RX9 82 yX2_laidDistance, Cond.instanceMethod yX2_laidDistance, Cond.selects RX2 yX2_laidDistance yX2_laidDistance]
def wz_k296_X9_findNearest : List Cond := .code yX9_findNearest cX9_findNearest 6 none :: (wo_k296_X9_findNearest ++ (wsX90 ++ (wz_k297_X2_takeLeft ++ (wz_k299_X2_takeRight ++ (wz_k264_X2_isLess ++ (wz_k237_X2_laidDistance ++ ([] : List Cond)))))))
theorem zg_k296_X9_findNearest : ∀ w ∈ wz_k296_X9_findNearest, goodWord w = true := zg_cons rfl (zg_app (by decide +kernel) (zg_app zgU_wsX90 (zg_app zg_k297_X2_takeLeft (zg_app zg_k299_X2_takeRight (zg_app zg_k264_X2_isLess (zg_app zg_k237_X2_laidDistance zg_nil))))))
theorem zi_k296_X9_findNearest : ∀ w ∈ wz_k296_X9_findNearest, w ∈ lw_tbl := zi_cons zw_1272 (zi_app (zi_cons zw_450 (zi_cons zw_452 (zi_cons zw_1273 (zi_cons zw_447 (zi_cons zw_448 (zi_cons zw_1274 (zi_cons zw_1275 (zi_cons zw_1276 (zi_cons zw_112 (zi_cons zw_449 (zi_cons zw_1278 (zi_cons zw_1076 (zi_cons zw_120 (zi_cons zw_1077 (zi_cons zw_1279 (zi_cons zw_1280 (zi_cons zw_1281 (zi_cons zw_1283 (zi_cons zw_1125 (zi_cons zw_1126 (zi_cons zw_1284 (zi_cons zw_1014 (zi_cons zw_1015 zi_nil))))))))))))))))))))))) (zi_app inX9 (zi_app zi_k297_X2_takeLeft (zi_app zi_k299_X2_takeRight (zi_app zi_k264_X2_isLess (zi_app zi_k237_X2_laidDistance zi_nil))))))
set_option maxHeartbeats 4000000 in
set_option maxRecDepth 100000 in
theorem k296_X9_findNearest (l : Launch) (D : va_G) (zt : Nat × Nat × Nat × (Nat → Nat) × (Nat → Nat)) (q : Nat → Nat) (d : Nat → ClassId) (I : Nat → Int32) (A : Nat → Nat → Int32) (z1 : Int32) (z2 : Int32) (z3 : Int32) (hIv : IvX I A) : GM l D zt (tyX d) yX9_findNearest wz_k296_X9_findNearest ({ frames := 4, cells := 0, slots := 0, locals := 93 } : Room) [.ref (q 49), .int z1, .int z2, .int z3] (wX q d I A) (fun v _ w' => ∃ (I' : Nat → Int32) (A' : Nat → Nat → Int32), Md [33, 34, 38, 39] I I' ∧ Md [21, 22, 23] A A' ∧ IvX I' A' ∧ v = none ∧ w' = wX q d I' A') 0 0 := by
  refine GM.of (cc := cX9_findNearest) (maxL := 6) (ret := none) (own := RX9) (lv := [(0, .ref (q 49)), (1, .int z1), (2, .int z2), (3, .int z3)]) (by decide) rfl rfl (Nat.le_of_ble_eq_true rfl) rfl (fun κ sz hk hR hN => ?_)
  have hin9 : ∀ w ∈ u_ws RX9 TX9 11, w ∈ wz_k296_X9_findNearest := fun w h => (List.mem_cons_of_mem _ (List.mem_append_right _ (List.mem_append_left _ h)))
  refine g_aload_n hk dX9_findNearest_0 rfl ?_
  refine g_bipush (v := (-2)) hk dX9_findNearest_1 (by decide) ?_
  refine pX_i38 hk hin9 (List.mem_cons_of_mem _ (List.mem_append_left _ (List.mem_of_getElem? (i := 0) rfl))) dX9_findNearest_3 ?_
  refine g_aload_n hk dX9_findNearest_6 rfl ?_
  refine g_bipush (v := (-2)) hk dX9_findNearest_7 (by decide) ?_
  refine pX_i39 hk hin9 (List.mem_cons_of_mem _ (List.mem_append_left _ (List.mem_of_getElem? (i := 1) rfl))) dX9_findNearest_9 ?_
  refine g_ldc (v := 2147483647) hk (List.mem_cons_of_mem _ (List.mem_append_left _ (List.mem_of_getElem? (i := 2) rfl))) dX9_findNearest_12 ?_
  refine g_istore (lv' := [(4, .int 2147483647), (0, .ref (q 49)), (1, .int z1), (2, .int z2), (3, .int z3)]) hk dX9_findNearest_14 (by decide) rfl ?_
  refine g_aload_n hk dX9_findNearest_16 rfl ?_
  refine gX_r49_1 hk hin9 (List.mem_cons_of_mem _ (List.mem_append_left _ (List.mem_of_getElem? (i := 3) rfl))) dX9_findNearest_17 ?_
  refine g_aload_n hk dX9_findNearest_20 rfl ?_
  refine gX_r49_2 hk hin9 (List.mem_cons_of_mem _ (List.mem_append_left _ (List.mem_of_getElem? (i := 4) rfl))) dX9_findNearest_21 ?_
  refine g_iload_n hk dX9_findNearest_24 rfl ?_
  refine g_bipush (v := 16) hk dX9_findNearest_25 (by decide) ?_
  have b9006l := Int32.le_toInt z1
  have b9006h := Int32.toInt_lt z1
  refine g_imul hk dX9_findNearest_27 ?_
  refine g_topi (fun y9007 ey9007 => ?_)
  refine g_callV (n := 2) hk (k297_X2_takeLeft l D zt q d (upd (upd I 38 (-2)) 39 (-2)) A y9007 ⟨(IvX_f0 (I := I) (A := A) hIv), (IvX_f18 (I := I) (A := A) hIv), (IvX_f30 (I := I) (A := A) hIv), (IvX_f31 (I := I) (A := A) hIv), (IvX_a4 (I := I) (A := A) hIv), (IvX_a9 (I := I) (A := A) hIv), trivial⟩) (SP.same _) (fun _ h => h) (gi_V (List.mem_cons_of_mem _ (List.mem_append_left _ (List.mem_of_getElem? (i := 5) rfl))) (List.mem_cons_of_mem _ (List.mem_append_left _ (List.mem_of_getElem? (i := 6) rfl))) (List.mem_cons_of_mem _ (List.mem_append_left _ (List.mem_of_getElem? (i := 7) rfl))) (List.mem_cons_of_mem _ (List.mem_append_left _ (List.mem_of_getElem? (i := 8) rfl))) (gi_sub (fun w h => (List.mem_cons_of_mem _ (List.mem_append_right _ (List.mem_append_right _ (List.mem_append_left _ h))))) zg_k297_X2_takeLeft)) rfl rfl rfl (by decide +kernel) ⟨Nat.le_of_ble_eq_true rfl, Nat.le_of_ble_eq_true rfl⟩ 38 rfl rfl rfl rfl (Nat.le_of_ble_eq_true rfl) ⟨Nat.le_of_ble_eq_true rfl, Nat.le_of_ble_eq_true rfl⟩ dX9_findNearest_28 (fun v ty' w' hp hk' => ?_)
  obtain ⟨I9055, A9055, hI9055, hA9055, hV9055, rfl, rfl⟩ := hp
  show GW κ 6 0 0 (wX q d I9055 A9055) 31 [(4, .int 2147483647), (0, .ref (q 49)), (1, .int z1), (2, .int z2), (3, .int z3)] []
  refine g_iconst (v := 0) hk dX9_findNearest_31 (by decide) ?_
  refine g_istore (lv' := [(5, .int 0), (4, .int 2147483647), (0, .ref (q 49)), (1, .int z1), (2, .int z2), (3, .int z3)]) hk dX9_findNearest_32 (by decide) rfl ?_
  have lp9206 : ∀ (n9207 : Nat) (x9056 : Int32) (x9057 : Int32) (I9062 : Nat → Int32) (A9062 : Nat → Nat → Int32), (Md [33, 34, 38, 39] I9055 I9062) → (Md [22, 23] A9055 A9062) → (IvX I9062 A9062) → (0 ≤ x9056.toInt) → (x9056.toInt ≤ 160) → (161 - x9056.toInt < (n9207 : Int)) → (0 < n9207) → GW κ 6 0 0 (wX q d I9062 A9062) 34 [(5, .int x9056), (4, .int x9057), (0, .ref (q 49)), (1, .int z1), (2, .int z2), (3, .int z3)] [] := by
    intro n9207
    induction n9207 with
    | zero =>
      intro x9056 x9057 I9062 A9062 hI9062 hA9062 hV9062 h9204 h9205 m9208 m9208z
      exact absurd m9208z (Nat.lt_irrefl 0)
    | succ n9207 ih9209 =>
      intro x9056 x9057 I9062 A9062 hI9062 hA9062 hV9062 h9204 h9205 m9208 m9208z
      refine g_iload hk dX9_findNearest_34 rfl ?_
      refine g_sipush (v := 160) hk dX9_findNearest_36 (by decide) ?_
      refine g_icmp_ge (tgt := 127) (a := x9056.toInt) (b := 160) hk dX9_findNearest_39 (by decide) rfl rfl (fun c9210 => ?_) (fun c9210 => ?_)
      · skip
        exact g_vret hk hR ⟨I9062, A9062, (show Md [33, 34, 38, 39] I I9062 from (Md.tr (Md.tr (Md.up (Md.up Md.rf rfl) rfl) hI9055 rfl) hI9062 rfl)), (show Md [21, 22, 23] A A9062 from (Md.tr (Md.tr Md.rf hA9055 rfl) hA9062 rfl)), hV9062, rfl, rfl⟩ dX9_findNearest_127
      · skip
        refine g_iload hk dX9_findNearest_42 rfl ?_
        refine g_iload_n hk dX9_findNearest_44 rfl ?_
        have b9211l := Int32.le_toInt x9057
        have b9211h := Int32.toInt_lt x9057
        have b9212l := Int32.le_toInt z3
        have b9212h := Int32.toInt_lt z3
        refine g_icmp_le (tgt := 127) (a := x9057.toInt) (b := z3.toInt) hk dX9_findNearest_45 (by decide) rfl rfl (fun c9213 => ?_) (fun c9213 => ?_)
        · skip
          exact g_vret hk hR ⟨I9062, A9062, (show Md [33, 34, 38, 39] I I9062 from (Md.tr (Md.tr (Md.up (Md.up Md.rf rfl) rfl) hI9055 rfl) hI9062 rfl)), (show Md [21, 22, 23] A A9062 from (Md.tr (Md.tr Md.rf hA9055 rfl) hA9062 rfl)), hV9062, rfl, rfl⟩ dX9_findNearest_127
        · skip
          refine g_aload_n hk dX9_findNearest_48 rfl ?_
          refine gX_r49_3 hk hin9 (List.mem_cons_of_mem _ (List.mem_append_left _ (List.mem_of_getElem? (i := 9) rfl))) dX9_findNearest_49 ?_
          refine g_iload hk dX9_findNearest_52 rfl ?_
          refine lX_31 (v := (A 31 x9056.toNatClampNeg)) hk (vp_in_iff.mpr ⟨by omega, by omega⟩) ((congrFun (hA9062 31 rfl) _).trans (congrFun (hA9055 31 rfl) _)) dX9_findNearest_54 ?_
          have b9214l := Int32.le_toInt (A 31 x9056.toNatClampNeg)
          have b9214h := Int32.toInt_lt (A 31 x9056.toNatClampNeg)
          refine g_if_eq (tgt := 121) (a := (A 31 x9056.toNatClampNeg).toInt) hk dX9_findNearest_55 (by decide) rfl (fun c9215 => ?_) (fun c9215 => ?_)
          · skip
            obtain ⟨y9216, ey9216⟩ : ∃ y : Int32, y = x9056 + Int32.ofInt 1 := ⟨_, rfl⟩
            have hy9216 : y9216.toInt = x9056.toInt + 1 := i32_add ey9216 rfl (by decide) (by omega) (by omega)
            refine g_iinc (v := y9216) (lv' := [(5, .int y9216), (4, .int x9057), (0, .ref (q 49)), (1, .int z1), (2, .int z2), (3, .int z3)]) hk 0 dX9_findNearest_121 rfl ey9216.symm (by decide) rfl ?_
            refine g_goto (tgt := 34) hk dX9_findNearest_124 (by decide) ?_
            exact g_lv (List.forall_mem_cons.mpr ⟨List.mem_of_getElem? (i := 0) rfl, (List.forall_mem_cons.mpr ⟨List.mem_of_getElem? (i := 1) rfl, (List.forall_mem_cons.mpr ⟨List.mem_of_getElem? (i := 2) rfl, (List.forall_mem_cons.mpr ⟨List.mem_of_getElem? (i := 3) rfl, (List.forall_mem_cons.mpr ⟨List.mem_of_getElem? (i := 4) rfl, (List.forall_mem_cons.mpr ⟨List.mem_of_getElem? (i := 5) rfl, (fun _ h => absurd h List.not_mem_nil)⟩)⟩)⟩)⟩)⟩)⟩) (ih9209 y9216 x9057 I9062 A9062 (show Md [33, 34, 38, 39] I9055 I9062 from Md.tr hI9062 (show Md [33, 34, 38, 39] I9062 I9062 from Md.rf) rfl) (show Md [22, 23] A9055 A9062 from Md.tr hA9062 (show Md [22, 23] A9062 A9062 from Md.rf) rfl) hV9062 (by omega) (by omega) (by omega) (by omega))
          · skip
            refine g_iload hk dX9_findNearest_58 rfl ?_
            refine g_iload_n hk dX9_findNearest_60 rfl ?_
            refine g_isub hk dX9_findNearest_61 ?_
            refine g_topi (fun y9217 ey9217 => ?_)
            have hy9217 := i32_sub0 ey9217
            have b9218l := Int32.le_toInt y9217
            have b9218h := Int32.toInt_lt y9217
            refine g_mabs hk (List.mem_cons_of_mem _ (List.mem_append_left _ (List.mem_of_getElem? (i := 10) rfl))) (List.mem_cons_of_mem _ (List.mem_append_left _ (List.mem_of_getElem? (i := 11) rfl))) (List.mem_cons_of_mem _ (List.mem_append_left _ (List.mem_of_getElem? (i := 12) rfl))) (List.mem_cons_of_mem _ (List.mem_append_left _ (List.mem_of_getElem? (i := 13) rfl))) (Nat.le_of_ble_eq_true rfl) (Nat.le_of_ble_eq_true rfl) (Nat.le_of_ble_eq_true rfl) (Nat.le_of_ble_eq_true rfl) dX9_findNearest_62 ?_
            refine g_topi (fun y9219 ey9219 => ?_)
            refine g_iload_n hk dX9_findNearest_65 rfl ?_
            have b9220l := Int32.le_toInt y9219
            have b9220h := Int32.toInt_lt y9219
            have b9221l := Int32.le_toInt z2
            have b9221h := Int32.toInt_lt z2
            refine g_icmp_ge (tgt := 72) (a := y9219.toInt) (b := z2.toInt) hk dX9_findNearest_66 (by decide) rfl rfl (fun c9222 => ?_) (fun c9222 => ?_)
            · skip
              refine g_aload_n hk dX9_findNearest_72 rfl ?_
              refine gX_r49_1 hk hin9 (List.mem_cons_of_mem _ (List.mem_append_left _ (List.mem_of_getElem? (i := 3) rfl))) dX9_findNearest_73 ?_
              refine g_aload_n hk dX9_findNearest_76 rfl ?_
              refine gX_r49_2 hk hin9 (List.mem_cons_of_mem _ (List.mem_append_left _ (List.mem_of_getElem? (i := 4) rfl))) dX9_findNearest_77 ?_
              refine g_iload hk dX9_findNearest_80 rfl ?_
              refine g_bipush (v := 16) hk dX9_findNearest_82 (by decide) ?_
              refine g_imul hk dX9_findNearest_84 ?_
              refine g_topi (fun y9223 ey9223 => ?_)
              have hy9223 : y9223.toInt = x9056.toInt * 16 := i32_mul ey9223 rfl rfl (by omega) (by omega)
              refine g_callV (n := 2) hk (k299_X2_takeRight l D zt q d I9062 A9062 y9223 hV9062) (SP.same _) (fun _ h => h) (gi_V (List.mem_cons_of_mem _ (List.mem_append_left _ (List.mem_of_getElem? (i := 14) rfl))) (List.mem_cons_of_mem _ (List.mem_append_left _ (List.mem_of_getElem? (i := 15) rfl))) (List.mem_cons_of_mem _ (List.mem_append_left _ (List.mem_of_getElem? (i := 16) rfl))) (List.mem_cons_of_mem _ (List.mem_append_left _ (List.mem_of_getElem? (i := 8) rfl))) (gi_sub (fun w h => (List.mem_cons_of_mem _ (List.mem_append_right _ (List.mem_append_right _ (List.mem_append_right _ (List.mem_append_left _ h)))))) zg_k299_X2_takeRight)) rfl rfl rfl (by decide +kernel) ⟨Nat.le_of_ble_eq_true rfl, Nat.le_of_ble_eq_true rfl⟩ 38 rfl rfl rfl rfl (Nat.le_of_ble_eq_true rfl) ⟨Nat.le_of_ble_eq_true rfl, Nat.le_of_ble_eq_true rfl⟩ dX9_findNearest_85 (fun v ty' w' hp hk' => ?_)
              obtain ⟨I9225, A9225, hI9225, hA9225, hV9225, rfl, rfl⟩ := hp
              show GW κ 6 0 0 (wX q d I9225 A9225) 88 [(5, .int x9056), (4, .int x9057), (0, .ref (q 49)), (1, .int z1), (2, .int z2), (3, .int z3)] []
              refine g_aload_n hk dX9_findNearest_88 rfl ?_
              refine gX_r49_1 hk hin9 (List.mem_cons_of_mem _ (List.mem_append_left _ (List.mem_of_getElem? (i := 3) rfl))) dX9_findNearest_89 ?_
              refine g_iload hk dX9_findNearest_92 rfl ?_
              refine g_callV (n := 1) hk (k264_X2_isLess l D zt q d I9225 A9225 x9057 hV9225) (SP.same _) (fun _ h => h) (gi_V (List.mem_cons_of_mem _ (List.mem_append_left _ (List.mem_of_getElem? (i := 17) rfl))) (List.mem_cons_of_mem _ (List.mem_append_left _ (List.mem_of_getElem? (i := 18) rfl))) (List.mem_cons_of_mem _ (List.mem_append_left _ (List.mem_of_getElem? (i := 19) rfl))) (List.mem_cons_of_mem _ (List.mem_append_left _ (List.mem_of_getElem? (i := 8) rfl))) (gi_sub (fun w h => (List.mem_cons_of_mem _ (List.mem_append_right _ (List.mem_append_right _ (List.mem_append_right _ (List.mem_append_right _ (List.mem_append_left _ h))))))) zg_k264_X2_isLess)) rfl rfl rfl (by decide +kernel) ⟨Nat.le_of_ble_eq_true rfl, Nat.le_of_ble_eq_true rfl⟩ 38 rfl rfl rfl rfl (Nat.le_of_ble_eq_true rfl) ⟨Nat.le_of_ble_eq_true rfl, Nat.le_of_ble_eq_true rfl⟩ dX9_findNearest_94 (fun v ty' w' hp hk' => ?_)
              obtain ⟨I9229, A9229, hI9229, hA9229, hV9229, y9226, c9227, c9228, rfl, rfl⟩ := hp
              show GW κ 6 0 0 (wX q d I9229 A9229) 97 [(5, .int x9056), (4, .int x9057), (0, .ref (q 49)), (1, .int z1), (2, .int z2), (3, .int z3)] [.int y9226]
              refine g_if_eq (tgt := 121) (a := y9226.toInt) hk dX9_findNearest_97 (by decide) rfl (fun c9230 => ?_) (fun c9230 => ?_)
              · skip
                obtain ⟨y9231, ey9231⟩ : ∃ y : Int32, y = x9056 + Int32.ofInt 1 := ⟨_, rfl⟩
                have hy9231 : y9231.toInt = x9056.toInt + 1 := i32_add ey9231 rfl (by decide) (by omega) (by omega)
                refine g_iinc (v := y9231) (lv' := [(5, .int y9231), (4, .int x9057), (0, .ref (q 49)), (1, .int z1), (2, .int z2), (3, .int z3)]) hk 0 dX9_findNearest_121 rfl ey9231.symm (by decide) rfl ?_
                refine g_goto (tgt := 34) hk dX9_findNearest_124 (by decide) ?_
                exact g_lv (List.forall_mem_cons.mpr ⟨List.mem_of_getElem? (i := 0) rfl, (List.forall_mem_cons.mpr ⟨List.mem_of_getElem? (i := 1) rfl, (List.forall_mem_cons.mpr ⟨List.mem_of_getElem? (i := 2) rfl, (List.forall_mem_cons.mpr ⟨List.mem_of_getElem? (i := 3) rfl, (List.forall_mem_cons.mpr ⟨List.mem_of_getElem? (i := 4) rfl, (List.forall_mem_cons.mpr ⟨List.mem_of_getElem? (i := 5) rfl, (fun _ h => absurd h List.not_mem_nil)⟩)⟩)⟩)⟩)⟩)⟩) (ih9209 y9231 x9057 I9229 A9229 (show Md [33, 34, 38, 39] I9055 I9229 from Md.tr hI9062 (show Md [33, 34, 38, 39] I9062 I9229 from (Md.tr (Md.tr Md.rf hI9225 rfl) hI9229 rfl)) rfl) (show Md [22, 23] A9055 A9229 from Md.tr hA9062 (show Md [22, 23] A9062 A9229 from (Md.tr (Md.tr Md.rf hA9225 rfl) hA9229 rfl)) rfl) hV9229 (by omega) (by omega) (by omega) (by omega))
              · skip
                refine g_aload_n hk dX9_findNearest_100 rfl ?_
                refine gX_r49_1 hk hin9 (List.mem_cons_of_mem _ (List.mem_append_left _ (List.mem_of_getElem? (i := 3) rfl))) dX9_findNearest_101 ?_
                refine g_callV (n := 0) hk (k237_X2_laidDistance l D zt q d I9229 A9229  hV9229) (SP.same _) (fun _ h => h) (gi_V (List.mem_cons_of_mem _ (List.mem_append_left _ (List.mem_of_getElem? (i := 20) rfl))) (List.mem_cons_of_mem _ (List.mem_append_left _ (List.mem_of_getElem? (i := 21) rfl))) (List.mem_cons_of_mem _ (List.mem_append_left _ (List.mem_of_getElem? (i := 22) rfl))) (List.mem_cons_of_mem _ (List.mem_append_left _ (List.mem_of_getElem? (i := 8) rfl))) (gi_sub (fun w h => (List.mem_cons_of_mem _ (List.mem_append_right _ (List.mem_append_right _ (List.mem_append_right _ (List.mem_append_right _ (List.mem_append_right _ (List.mem_append_left _ h)))))))) zg_k237_X2_laidDistance)) rfl rfl rfl (by decide +kernel) ⟨Nat.le_of_ble_eq_true rfl, Nat.le_of_ble_eq_true rfl⟩ 38 rfl rfl rfl rfl (Nat.le_of_ble_eq_true rfl) ⟨Nat.le_of_ble_eq_true rfl, Nat.le_of_ble_eq_true rfl⟩ dX9_findNearest_104 (fun v ty' w' hp hk' => ?_)
                obtain ⟨y9232, rfl, rfl⟩ := hp
                show GW κ 6 0 0 (wX q d I9229 A9229) 107 [(5, .int x9056), (4, .int x9057), (0, .ref (q 49)), (1, .int z1), (2, .int z2), (3, .int z3)] [.int y9232]
                refine g_istore (lv' := [(4, .int y9232), (5, .int x9056), (0, .ref (q 49)), (1, .int z1), (2, .int z2), (3, .int z3)]) hk dX9_findNearest_107 (by decide) rfl ?_
                refine g_aload_n hk dX9_findNearest_109 rfl ?_
                refine g_iload hk dX9_findNearest_110 rfl ?_
                refine pX_i38 hk hin9 (List.mem_cons_of_mem _ (List.mem_append_left _ (List.mem_of_getElem? (i := 0) rfl))) dX9_findNearest_112 ?_
                refine g_aload_n hk dX9_findNearest_115 rfl ?_
                refine g_iload hk dX9_findNearest_116 rfl ?_
                refine pX_i39 hk hin9 (List.mem_cons_of_mem _ (List.mem_append_left _ (List.mem_of_getElem? (i := 1) rfl))) dX9_findNearest_118 ?_
                obtain ⟨y9233, ey9233⟩ : ∃ y : Int32, y = x9056 + Int32.ofInt 1 := ⟨_, rfl⟩
                have hy9233 : y9233.toInt = x9056.toInt + 1 := i32_add ey9233 rfl (by decide) (by omega) (by omega)
                refine g_iinc (v := y9233) (lv' := [(5, .int y9233), (4, .int y9232), (0, .ref (q 49)), (1, .int z1), (2, .int z2), (3, .int z3)]) hk 1 dX9_findNearest_121 rfl ey9233.symm (by decide) rfl ?_
                refine g_goto (tgt := 34) hk dX9_findNearest_124 (by decide) ?_
                exact g_lv (List.forall_mem_cons.mpr ⟨List.mem_of_getElem? (i := 0) rfl, (List.forall_mem_cons.mpr ⟨List.mem_of_getElem? (i := 1) rfl, (List.forall_mem_cons.mpr ⟨List.mem_of_getElem? (i := 2) rfl, (List.forall_mem_cons.mpr ⟨List.mem_of_getElem? (i := 3) rfl, (List.forall_mem_cons.mpr ⟨List.mem_of_getElem? (i := 4) rfl, (List.forall_mem_cons.mpr ⟨List.mem_of_getElem? (i := 5) rfl, (fun _ h => absurd h List.not_mem_nil)⟩)⟩)⟩)⟩)⟩)⟩) (ih9209 y9233 y9232 (upd (upd I9229 38 x9056) 39 y9232) A9229 (show Md [33, 34, 38, 39] I9055 (upd (upd I9229 38 x9056) 39 y9232) from Md.tr hI9062 (show Md [33, 34, 38, 39] I9062 (upd (upd I9229 38 x9056) 39 y9232) from (Md.up (Md.up (Md.tr (Md.tr Md.rf hI9225 rfl) hI9229 rfl) rfl) rfl)) rfl) (show Md [22, 23] A9055 A9229 from Md.tr hA9062 (show Md [22, 23] A9062 A9229 from (Md.tr (Md.tr Md.rf hA9225 rfl) hA9229 rfl)) rfl) ⟨(IvX_f0 (I := I9229) (A := A9229) hV9229), (IvX_f18 (I := I9229) (A := A9229) hV9229), (IvX_f30 (I := I9229) (A := A9229) hV9229), (IvX_f31 (I := I9229) (A := A9229) hV9229), (IvX_a4 (I := I9229) (A := A9229) hV9229), (IvX_a9 (I := I9229) (A := A9229) hV9229), trivial⟩ (by omega) (by omega) (by omega) (by omega))
            · skip
              refine g_goto (tgt := 121) hk dX9_findNearest_69 (by decide) ?_
              obtain ⟨y9234, ey9234⟩ : ∃ y : Int32, y = x9056 + Int32.ofInt 1 := ⟨_, rfl⟩
              have hy9234 : y9234.toInt = x9056.toInt + 1 := i32_add ey9234 rfl (by decide) (by omega) (by omega)
              refine g_iinc (v := y9234) (lv' := [(5, .int y9234), (4, .int x9057), (0, .ref (q 49)), (1, .int z1), (2, .int z2), (3, .int z3)]) hk 0 dX9_findNearest_121 rfl ey9234.symm (by decide) rfl ?_
              refine g_goto (tgt := 34) hk dX9_findNearest_124 (by decide) ?_
              exact g_lv (List.forall_mem_cons.mpr ⟨List.mem_of_getElem? (i := 0) rfl, (List.forall_mem_cons.mpr ⟨List.mem_of_getElem? (i := 1) rfl, (List.forall_mem_cons.mpr ⟨List.mem_of_getElem? (i := 2) rfl, (List.forall_mem_cons.mpr ⟨List.mem_of_getElem? (i := 3) rfl, (List.forall_mem_cons.mpr ⟨List.mem_of_getElem? (i := 4) rfl, (List.forall_mem_cons.mpr ⟨List.mem_of_getElem? (i := 5) rfl, (fun _ h => absurd h List.not_mem_nil)⟩)⟩)⟩)⟩)⟩)⟩) (ih9209 y9234 x9057 I9062 A9062 (show Md [33, 34, 38, 39] I9055 I9062 from Md.tr hI9062 (show Md [33, 34, 38, 39] I9062 I9062 from Md.rf) rfl) (show Md [22, 23] A9055 A9062 from Md.tr hA9062 (show Md [22, 23] A9062 A9062 from Md.rf) rfl) hV9062 (by omega) (by omega) (by omega) (by omega))
  have k9236 : (0 : Int32).toInt = 0 := rfl
  have k9237 : (2147483647 : Int32).toInt = 2147483647 := rfl
  obtain ⟨n9235, n9235a, n9235b⟩ : ∃ n : Nat, 161 - 0 < (n : Int) ∧ 0 < n := ⟨((161 - 0 : Int)).toNat + 1, by omega, by omega⟩
  exact lp9206 n9235 0 2147483647 I9055 A9055 Md.rf Md.rf hV9055 (by omega) (by omega) n9235a n9235b
def wo_k292_X9_findNear : List Cond := [Cond.methodLink RX9 50 yX9_bringAll, Cond.instanceMethod yX9_bringAll, Cond.selects RX9 yX9_bringAll yX9_bringAll, Cond.initialized RX9, Cond.methodLink RX9 54 yX9_findNearest, Cond.instanceMethod yX9_findNearest, Cond.selects RX9 yX9_findNearest yX9_findNearest]
def wz_k292_X9_findNear : List Cond := .code yX9_findNear cX9_findNear 3 none :: (wo_k292_X9_findNear ++ (wz_k293_X9_bringAll ++ (wz_k296_X9_findNearest ++ ([] : List Cond))))
theorem zg_k292_X9_findNear : ∀ w ∈ wz_k292_X9_findNear, goodWord w = true := zg_cons rfl (zg_app (by decide +kernel) (zg_app zg_k293_X9_bringAll (zg_app zg_k296_X9_findNearest zg_nil)))
theorem zi_k292_X9_findNear : ∀ w ∈ wz_k292_X9_findNear, w ∈ lw_tbl := zi_cons zw_1254 (zi_app (zi_cons zw_1255 (zi_cons zw_1257 (zi_cons zw_39 (zi_cons zw_114 (zi_cons zw_1269 (zi_cons zw_1271 (zi_cons zw_41 zi_nil))))))) (zi_app zi_k293_X9_bringAll (zi_app zi_k296_X9_findNearest zi_nil)))
set_option maxHeartbeats 4000000 in
set_option maxRecDepth 100000 in
theorem k292_X9_findNear (l : Launch) (D : va_G) (zt : Nat × Nat × Nat × (Nat → Nat) × (Nat → Nat)) (q : Nat → Nat) (d : Nat → ClassId) (I : Nat → Int32) (A : Nat → Nat → Int32) (z1 : Int32) (z2 : Int32) (hIv : IvX I A) : GM l D zt (tyX d) yX9_findNear wz_k292_X9_findNear ({ frames := 5, cells := 0, slots := 0, locals := 118 } : Room) [.ref (q 49), .int z1, .int z2] (wX q d I A) (fun v _ w' => ∃ (I' : Nat → Int32) (A' : Nat → Nat → Int32), Md [28, 30, 31, 32, 33, 34, 38, 39] I I' ∧ Md [21, 22, 23, 30, 31] A A' ∧ IvX I' A' ∧ v = none ∧ w' = wX q d I' A') 0 0 := by
  refine GM.of (cc := cX9_findNear) (maxL := 3) (ret := none) (own := RX9) (lv := [(0, .ref (q 49)), (1, .int z1), (2, .int z2)]) (by decide) rfl rfl (Nat.le_of_ble_eq_true rfl) rfl (fun κ sz hk hR hN => ?_)
  refine g_aload_n hk dX9_findNear_0 rfl ?_
  refine g_iload_n hk dX9_findNear_1 rfl ?_
  refine g_callV (n := 1) hk (k293_X9_bringAll l D zt q d I A z2 hIv) (SP.same _) (fun _ h => h) (gi_V (List.mem_cons_of_mem _ (List.mem_append_left _ (List.mem_of_getElem? (i := 0) rfl))) (List.mem_cons_of_mem _ (List.mem_append_left _ (List.mem_of_getElem? (i := 1) rfl))) (List.mem_cons_of_mem _ (List.mem_append_left _ (List.mem_of_getElem? (i := 2) rfl))) (List.mem_cons_of_mem _ (List.mem_append_left _ (List.mem_of_getElem? (i := 3) rfl))) (gi_sub (fun w h => (List.mem_cons_of_mem _ (List.mem_append_right _ (List.mem_append_left _ h)))) zg_k293_X9_bringAll)) rfl rfl rfl (by decide +kernel) ⟨Nat.le_of_ble_eq_true rfl, Nat.le_of_ble_eq_true rfl⟩ 49 rfl rfl rfl rfl (Nat.le_of_ble_eq_true rfl) ⟨Nat.le_of_ble_eq_true rfl, Nat.le_of_ble_eq_true rfl⟩ dX9_findNear_2 (fun v ty' w' hp hk' => ?_)
  obtain ⟨I9005, A9005, hI9005, hA9005, hV9005, rfl, rfl⟩ := hp
  show GW κ 3 0 0 (wX q d I9005 A9005) 5 [(0, .ref (q 49)), (1, .int z1), (2, .int z2)] []
  refine g_aload_n hk dX9_findNear_5 rfl ?_
  refine g_iload_n hk dX9_findNear_6 rfl ?_
  refine g_iload_n hk dX9_findNear_7 rfl ?_
  refine g_iconst (v := (-1)) hk dX9_findNear_8 (by decide) ?_
  have k9238 : ((-1) : Int32).toInt = (-1) := rfl
  refine g_callV (n := 3) hk (k296_X9_findNearest l D zt q d I9005 A9005 z1 z2 (-1) hV9005) (SP.same _) (fun _ h => h) (gi_V (List.mem_cons_of_mem _ (List.mem_append_left _ (List.mem_of_getElem? (i := 4) rfl))) (List.mem_cons_of_mem _ (List.mem_append_left _ (List.mem_of_getElem? (i := 5) rfl))) (List.mem_cons_of_mem _ (List.mem_append_left _ (List.mem_of_getElem? (i := 6) rfl))) (List.mem_cons_of_mem _ (List.mem_append_left _ (List.mem_of_getElem? (i := 3) rfl))) (gi_sub (fun w h => (List.mem_cons_of_mem _ (List.mem_append_right _ (List.mem_append_right _ (List.mem_append_left _ h))))) zg_k296_X9_findNearest)) rfl rfl rfl (by decide +kernel) ⟨Nat.le_of_ble_eq_true rfl, Nat.le_of_ble_eq_true rfl⟩ 49 rfl rfl rfl rfl (Nat.le_of_ble_eq_true rfl) ⟨Nat.le_of_ble_eq_true rfl, Nat.le_of_ble_eq_true rfl⟩ dX9_findNear_9 (fun v ty' w' hp hk' => ?_)
  obtain ⟨I9240, A9240, hI9240, hA9240, hV9240, rfl, rfl⟩ := hp
  show GW κ 3 0 0 (wX q d I9240 A9240) 12 [(0, .ref (q 49)), (1, .int z1), (2, .int z2)] []
  exact g_vret hk hR ⟨I9240, A9240, (show Md [28, 30, 31, 32, 33, 34, 38, 39] I I9240 from (Md.tr (Md.tr Md.rf hI9005 rfl) hI9240 rfl)), (show Md [21, 22, 23, 30, 31] A A9240 from (Md.tr (Md.tr Md.rf hA9005 rfl) hA9240 rfl)), hV9240, rfl, rfl⟩ dX9_findNear_12
def wo_k291_X11_near : List Cond := [Cond.methodLink RX11 196 yX11_isStretch, Cond.static yX11_isStretch, Cond.initialized RX11, Cond.fieldLink RX11 28 "WarpDesk" "series" "LWarpDesk$Series;", Cond.methodLink RX11 183 yX6_hasWindow, Cond.instanceMethod yX6_hasWindow, Cond.selects RX6 yX6_hasWindow yX6_hasWindow, Cond.initialized RX6, Cond.fieldLink RX11 81 "WarpDesk" "stretches" "LWarpDesk$Stretches;", Cond.methodLink RX11 323 yX9_findNear, Cond.instanceMethod yX9_findNear, Cond.selects RX9 yX9_findNear yX9_findNear, Cond.initialized RX9, Cond.fieldLink RX11 329 "WarpDesk$Stretches" "nearestDistance" "I", Cond.fieldLink RX11 326 "WarpDesk$Stretches" "nearest" "I"]
def wz_k291_X11_near : List Cond := .code yX11_near cX11_near 4 (some .int) :: (wo_k291_X11_near ++ (wsX90 ++ (wsX110 ++ (wz_k212_X11_isStretch ++ (wz_k207_X6_hasWindow ++ (wz_k292_X9_findNear ++ ([] : List Cond)))))))
theorem zg_k291_X11_near : ∀ w ∈ wz_k291_X11_near, goodWord w = true := zg_cons rfl (zg_app (by decide +kernel) (zg_app zgU_wsX90 (zg_app zgU_wsX110 (zg_app zg_k212_X11_isStretch (zg_app zg_k207_X6_hasWindow (zg_app zg_k292_X9_findNear zg_nil))))))
theorem zi_k291_X11_near : ∀ w ∈ wz_k291_X11_near, w ∈ lw_tbl := zi_cons zw_1250 (zi_app (zi_cons zw_926 (zi_cons zw_927 (zi_cons zw_103 (zi_cons zw_489 (zi_cons zw_901 (zi_cons zw_902 (zi_cons zw_903 (zi_cons zw_109 (zi_cons zw_496 (zi_cons zw_1251 (zi_cons zw_1252 (zi_cons zw_1253 (zi_cons zw_114 (zi_cons zw_453 (zi_cons zw_451 zi_nil))))))))))))))) (zi_app inX9 (zi_app inX11 (zi_app zi_k212_X11_isStretch (zi_app zi_k207_X6_hasWindow (zi_app zi_k292_X9_findNear zi_nil))))))
set_option maxHeartbeats 4000000 in
set_option maxRecDepth 100000 in
theorem k291_X11_near (l : Launch) (D : va_G) (zt : Nat × Nat × Nat × (Nat → Nat) × (Nat → Nat)) (q : Nat → Nat) (d : Nat → ClassId) (I : Nat → Int32) (A : Nat → Nat → Int32) (z1 : Int32) (z2 : Int32) (z3 : Int32) (hIv : IvX I A) : GM l D zt (tyX d) yX11_near wz_k291_X11_near ({ frames := 6, cells := 0, slots := 0, locals := 140 } : Room) [.ref (q 0), .int z1, .int z2, .int z3] (wX q d I A) (fun v _ w' => ∃ (I' : Nat → Int32) (A' : Nat → Nat → Int32), Md [28, 30, 31, 32, 33, 34, 38, 39] I I' ∧ Md [21, 22, 23, 30, 31] A A' ∧ IvX I' A' ∧ ∃ y0 : Int32, v = some (.int y0) ∧ w' = wX q d I' A') 0 0 := by
  refine GM.of (cc := cX11_near) (maxL := 4) (ret := (some .int)) (own := RX11) (lv := [(0, .ref (q 0)), (1, .int z1), (2, .int z2), (3, .int z3)]) (by decide) rfl rfl (Nat.le_of_ble_eq_true rfl) rfl (fun κ sz hk hR hN => ?_)
  have hin9 : ∀ w ∈ u_ws RX9 TX9 11, w ∈ wz_k291_X11_near := fun w h => (List.mem_cons_of_mem _ (List.mem_append_right _ (List.mem_append_left _ h)))
  have hin11 : ∀ w ∈ u_ws RX11 TX11 10, w ∈ wz_k291_X11_near := fun w h => (List.mem_cons_of_mem _ (List.mem_append_right _ (List.mem_append_right _ (List.mem_append_left _ h))))
  refine g_iload_n hk dX11_near_0 rfl ?_
  refine g_callS (n := 1) hk (k212_X11_isStretch l D zt q d I A z2 hIv) (SP.same _) (fun _ h => h) (gi_S (List.mem_cons_of_mem _ (List.mem_append_left _ (List.mem_of_getElem? (i := 0) rfl))) (List.mem_cons_of_mem _ (List.mem_append_left _ (List.mem_of_getElem? (i := 1) rfl))) (List.mem_cons_of_mem _ (List.mem_append_left _ (List.mem_of_getElem? (i := 2) rfl))) (gi_sub (fun w h => (List.mem_cons_of_mem _ (List.mem_append_right _ (List.mem_append_right _ (List.mem_append_right _ (List.mem_append_left _ h)))))) zg_k212_X11_isStretch)) rfl rfl rfl (by decide +kernel) ⟨Nat.le_of_ble_eq_true rfl, Nat.le_of_ble_eq_true rfl⟩ rfl rfl (Nat.le_of_ble_eq_true rfl) ⟨Nat.le_of_ble_eq_true rfl, Nat.le_of_ble_eq_true rfl⟩ dX11_near_1 (fun v ty' w' hp hk' => ?_)
  rcases hp with ⟨rfl, rfl⟩ | ⟨c8782, c8783, c8784, c8785, rfl, rfl⟩
  · skip
    show GW κ 4 0 0 (wX q d I A) 4 [(0, .ref (q 0)), (1, .int z1), (2, .int z2), (3, .int z3)] [.int 0]
    refine g_if_eq (tgt := 28) (a := 0) hk dX11_near_4 (by decide) rfl (fun _ => ?_) (fun z9 => absurd (show (0 : Int) = (0 : Int) from by decide) z9)
    refine g_iconst (v := (-1)) hk dX11_near_28 (by decide) ?_
    exact g_iret hk hR rfl ⟨I, A, (show Md [28, 30, 31, 32, 33, 34, 38, 39] I I from Md.rf), (show Md [21, 22, 23, 30, 31] A A from Md.rf), hIv, (-1), rfl, rfl⟩ dX11_near_29
  · skip
    show GW κ 4 0 0 (wX q d I A) 4 [(0, .ref (q 0)), (1, .int z1), (2, .int z2), (3, .int z3)] [.int 1]
    refine g_if_eq (tgt := 28) (a := 1) hk dX11_near_4 (by decide) rfl (fun z9 => absurd z9 (show ¬ ((1 : Int) = (0 : Int)) from by decide)) (fun _ => ?_)
    refine g_iload_n hk dX11_near_7 rfl ?_
    have b8787l := Int32.le_toInt z3
    have b8787h := Int32.toInt_lt z3
    refine g_if_lt (tgt := 28) (a := z3.toInt) hk dX11_near_8 (by decide) rfl (fun c8788 => ?_) (fun c8788 => ?_)
    · skip
      refine g_iconst (v := (-1)) hk dX11_near_28 (by decide) ?_
      exact g_iret hk hR rfl ⟨I, A, (show Md [28, 30, 31, 32, 33, 34, 38, 39] I I from Md.rf), (show Md [21, 22, 23, 30, 31] A A from Md.rf), hIv, (-1), rfl, rfl⟩ dX11_near_29
    · skip
      refine g_iload_n hk dX11_near_11 rfl ?_
      refine g_iconst (v := 1) hk dX11_near_12 (by decide) ?_
      refine g_icmp_gt (tgt := 28) (a := z3.toInt) (b := 1) hk dX11_near_13 (by decide) rfl rfl (fun c8789 => ?_) (fun c8789 => ?_)
      · skip
        refine g_iconst (v := (-1)) hk dX11_near_28 (by decide) ?_
        exact g_iret hk hR rfl ⟨I, A, (show Md [28, 30, 31, 32, 33, 34, 38, 39] I I from Md.rf), (show Md [21, 22, 23, 30, 31] A A from Md.rf), hIv, (-1), rfl, rfl⟩ dX11_near_29
      · skip
        refine g_aload_n hk dX11_near_16 rfl ?_
        refine gX_r0_2 hk hin11 (List.mem_cons_of_mem _ (List.mem_append_left _ (List.mem_of_getElem? (i := 3) rfl))) dX11_near_17 ?_
        refine g_iload_n hk dX11_near_20 rfl ?_
        refine g_iload_n hk dX11_near_21 rfl ?_
        refine g_callV (n := 2) hk (k207_X6_hasWindow l D zt q d I A z1 z2 hIv) (SP.same _) (fun _ h => h) (gi_V (List.mem_cons_of_mem _ (List.mem_append_left _ (List.mem_of_getElem? (i := 4) rfl))) (List.mem_cons_of_mem _ (List.mem_append_left _ (List.mem_of_getElem? (i := 5) rfl))) (List.mem_cons_of_mem _ (List.mem_append_left _ (List.mem_of_getElem? (i := 6) rfl))) (List.mem_cons_of_mem _ (List.mem_append_left _ (List.mem_of_getElem? (i := 7) rfl))) (gi_sub (fun w h => (List.mem_cons_of_mem _ (List.mem_append_right _ (List.mem_append_right _ (List.mem_append_right _ (List.mem_append_right _ (List.mem_append_left _ h))))))) zg_k207_X6_hasWindow)) rfl rfl rfl (by decide +kernel) ⟨Nat.le_of_ble_eq_true rfl, Nat.le_of_ble_eq_true rfl⟩ 13 rfl rfl rfl rfl (Nat.le_of_ble_eq_true rfl) ⟨Nat.le_of_ble_eq_true rfl, Nat.le_of_ble_eq_true rfl⟩ dX11_near_22 (fun v ty' w' hp hk' => ?_)
        rcases hp with ⟨rfl, rfl⟩ | ⟨c8791, c8792, c8793, c8794, c8795, c8796, rfl, rfl⟩
        · skip
          show GW κ 4 0 0 (wX q d I A) 25 [(0, .ref (q 0)), (1, .int z1), (2, .int z2), (3, .int z3)] [.int 0]
          refine g_if_ne (tgt := 30) (a := 0) hk dX11_near_25 (by decide) rfl (fun z9 => absurd z9 (show ¬ ((0 : Int) ≠ (0 : Int)) from by decide)) (fun _ => ?_)
          refine g_iconst (v := (-1)) hk dX11_near_28 (by decide) ?_
          exact g_iret hk hR rfl ⟨I, A, (show Md [28, 30, 31, 32, 33, 34, 38, 39] I I from Md.rf), (show Md [21, 22, 23, 30, 31] A A from Md.rf), hIv, (-1), rfl, rfl⟩ dX11_near_29
        · skip
          show GW κ 4 0 0 (wX q d I A) 25 [(0, .ref (q 0)), (1, .int z1), (2, .int z2), (3, .int z3)] [.int 1]
          refine g_if_ne (tgt := 30) (a := 1) hk dX11_near_25 (by decide) rfl (fun _ => ?_) (fun z9 => absurd (show (1 : Int) ≠ (0 : Int) from by decide) z9)
          refine g_aload_n hk dX11_near_30 rfl ?_
          refine gX_r0_9 hk hin11 (List.mem_cons_of_mem _ (List.mem_append_left _ (List.mem_of_getElem? (i := 8) rfl))) dX11_near_31 ?_
          refine g_iload_n hk dX11_near_34 rfl ?_
          refine g_iload_n hk dX11_near_35 rfl ?_
          refine g_callV (n := 2) hk (k292_X9_findNear l D zt q d I A z1 z2 hIv) (SP.same _) (fun _ h => h) (gi_V (List.mem_cons_of_mem _ (List.mem_append_left _ (List.mem_of_getElem? (i := 9) rfl))) (List.mem_cons_of_mem _ (List.mem_append_left _ (List.mem_of_getElem? (i := 10) rfl))) (List.mem_cons_of_mem _ (List.mem_append_left _ (List.mem_of_getElem? (i := 11) rfl))) (List.mem_cons_of_mem _ (List.mem_append_left _ (List.mem_of_getElem? (i := 12) rfl))) (gi_sub (fun w h => (List.mem_cons_of_mem _ (List.mem_append_right _ (List.mem_append_right _ (List.mem_append_right _ (List.mem_append_right _ (List.mem_append_right _ (List.mem_append_left _ h)))))))) zg_k292_X9_findNear)) rfl rfl rfl (by decide +kernel) ⟨Nat.le_of_ble_eq_true rfl, Nat.le_of_ble_eq_true rfl⟩ 49 rfl rfl rfl rfl (Nat.le_of_ble_eq_true rfl) ⟨Nat.le_of_ble_eq_true rfl, Nat.le_of_ble_eq_true rfl⟩ dX11_near_36 (fun v ty' w' hp hk' => ?_)
          obtain ⟨I9242, A9242, hI9242, hA9242, hV9242, rfl, rfl⟩ := hp
          show GW κ 4 0 0 (wX q d I9242 A9242) 39 [(0, .ref (q 0)), (1, .int z1), (2, .int z2), (3, .int z3)] []
          refine g_iload_n hk dX11_near_39 rfl ?_
          refine g_if_ne (tgt := 53) (a := z3.toInt) hk dX11_near_40 (by decide) rfl (fun c9243 => ?_) (fun c9243 => ?_)
          · skip
            refine g_aload_n hk dX11_near_53 rfl ?_
            refine gX_r0_9 hk hin11 (List.mem_cons_of_mem _ (List.mem_append_left _ (List.mem_of_getElem? (i := 8) rfl))) dX11_near_54 ?_
            refine gX_i39 (v := (I9242 39)) hk hin9 (List.mem_cons_of_mem _ (List.mem_append_left _ (List.mem_of_getElem? (i := 13) rfl))) dX11_near_57 rfl ?_
            have b9244l := Int32.le_toInt (I9242 39)
            have b9244h := Int32.toInt_lt (I9242 39)
            exact g_iret hk hR rfl ⟨I9242, A9242, (show Md [28, 30, 31, 32, 33, 34, 38, 39] I I9242 from (Md.tr Md.rf hI9242 rfl)), (show Md [21, 22, 23, 30, 31] A A9242 from (Md.tr Md.rf hA9242 rfl)), hV9242, (I9242 39), rfl, rfl⟩ dX11_near_60
          · skip
            refine g_aload_n hk dX11_near_43 rfl ?_
            refine gX_r0_9 hk hin11 (List.mem_cons_of_mem _ (List.mem_append_left _ (List.mem_of_getElem? (i := 8) rfl))) dX11_near_44 ?_
            refine gX_i38 (v := (I9242 38)) hk hin9 (List.mem_cons_of_mem _ (List.mem_append_left _ (List.mem_of_getElem? (i := 14) rfl))) dX11_near_47 rfl ?_
            refine g_goto (tgt := 60) hk dX11_near_50 (by decide) ?_
            have b9245l := Int32.le_toInt (I9242 38)
            have b9245h := Int32.toInt_lt (I9242 38)
            exact g_iret hk hR rfl ⟨I9242, A9242, (show Md [28, 30, 31, 32, 33, 34, 38, 39] I I9242 from (Md.tr Md.rf hI9242 rfl)), (show Md [21, 22, 23, 30, 31] A A9242 from (Md.tr Md.rf hA9242 rfl)), hV9242, (I9242 38), rfl, rfl⟩ dX11_near_60
def wo_k303_X9_seekPairOf : List Cond := [Cond.fieldLink RX9 15 "WarpDesk$Stretches" "isThere" "[Z", Cond.fieldLink RX9 29 "WarpDesk$Stretches" "fit" "LWarpDesk$Fit;", Cond.fieldLink RX9 9 "WarpDesk$Stretches" "rows" "[I", Cond.methodLink RX9 75 yX2_takeRight, Cond.instanceMethod yX2_takeRight, Cond.selects RX2 yX2_takeRight yX2_takeRight, Cond.initialized RX2, Cond.fieldLink RX9 92 "WarpDesk$Stretches" "pairDistance" "I", Cond.methodLink RX9 78 yX2_isLess, Cond.instanceMethod yX2_isLess, Cond.selects RX2 yX2_isLess yX2_isLess, Cond.fieldLink RX9 86 "WarpDesk$Stretches" "pairLesser" "I", Cond.fieldLink RX9 89 "WarpDesk$Stretches" "pairGreater" "I", Cond.methodLink RX9 82 yX2_laidDistance, Cond.instanceMethod yX2_laidDistance, Cond.selects RX2 yX2_laidDistance yX2_laidDistance, Cond.constant RX9 65 (2147483647)]
def wz_k303_X9_seekPairOf : List Cond := .code yX9_seekPairOf cX9_seekPairOf 4 none :: (wo_k303_X9_seekPairOf ++ (wsX90 ++ (wz_k299_X2_takeRight ++ (wz_k264_X2_isLess ++ (wz_k237_X2_laidDistance ++ ([] : List Cond))))))
theorem zg_k303_X9_seekPairOf : ∀ w ∈ wz_k303_X9_seekPairOf, goodWord w = true := zg_cons rfl (zg_app (by decide +kernel) (zg_app zgU_wsX90 (zg_app zg_k299_X2_takeRight (zg_app zg_k264_X2_isLess (zg_app zg_k237_X2_laidDistance zg_nil)))))
theorem zi_k303_X9_seekPairOf : ∀ w ∈ wz_k303_X9_seekPairOf, w ∈ lw_tbl := zi_cons zw_1296 (zi_app (zi_cons zw_449 (zi_cons zw_447 (zi_cons zw_448 (zi_cons zw_1279 (zi_cons zw_1280 (zi_cons zw_1281 (zi_cons zw_112 (zi_cons zw_458 (zi_cons zw_1283 (zi_cons zw_1125 (zi_cons zw_1126 (zi_cons zw_454 (zi_cons zw_456 (zi_cons zw_1284 (zi_cons zw_1014 (zi_cons zw_1015 (zi_cons zw_1273 zi_nil))))))))))))))))) (zi_app inX9 (zi_app zi_k299_X2_takeRight (zi_app zi_k264_X2_isLess (zi_app zi_k237_X2_laidDistance zi_nil)))))
set_option maxHeartbeats 4000000 in
set_option maxRecDepth 100000 in
theorem k303_X9_seekPairOf (l : Launch) (D : va_G) (zt : Nat × Nat × Nat × (Nat → Nat) × (Nat → Nat)) (q : Nat → Nat) (d : Nat → ClassId) (I : Nat → Int32) (A : Nat → Nat → Int32) (z1 : Int32) (z2 : Int32) (hIv : IvX I A) (hp0 : 0 ≤ z1.toInt) (hp1 : z1.toInt ≤ 159) (hp2 : 2 ≤ z2.toInt) (hp3 : z2.toInt ≤ 16) : GM l D zt (tyX d) yX9_seekPairOf wz_k303_X9_seekPairOf ({ frames := 4, cells := 0, slots := 0, locals := 93 } : Room) [.ref (q 49), .int z1, .int z2] (wX q d I A) (fun v _ w' => ∃ (I' : Nat → Int32) (A' : Nat → Nat → Int32), Md [33, 34, 40, 41, 42] I I' ∧ Md [22, 23] A A' ∧ IvX I' A' ∧ v = none ∧ w' = wX q d I' A') 0 0 := by
  refine GM.of (cc := cX9_seekPairOf) (maxL := 4) (ret := none) (own := RX9) (lv := [(0, .ref (q 49)), (1, .int z1), (2, .int z2)]) (by decide) rfl rfl (Nat.le_of_ble_eq_true rfl) rfl (fun κ sz hk hR hN => ?_)
  have hin9 : ∀ w ∈ u_ws RX9 TX9 11, w ∈ wz_k303_X9_seekPairOf := fun w h => (List.mem_cons_of_mem _ (List.mem_append_right _ (List.mem_append_left _ h)))
  refine g_iload_n hk dX9_seekPairOf_0 rfl ?_
  refine g_iload_n hk dX9_seekPairOf_1 rfl ?_
  refine g_iadd hk dX9_seekPairOf_2 ?_
  refine g_topi (fun y9266 ey9266 => ?_)
  have hy9266 : y9266.toInt = z1.toInt + z2.toInt := i32_add ey9266 rfl rfl (by omega) (by omega)
  refine g_istore_n (lv' := [(3, .int y9266), (0, .ref (q 49)), (1, .int z1), (2, .int z2)]) hk dX9_seekPairOf_3 (by decide) rfl ?_
  have lp9326 : ∀ (n9327 : Nat) (x9267 : Int32) (I9271 : Nat → Int32) (A9271 : Nat → Nat → Int32), (Md [33, 34, 40, 41, 42] I I9271) → (Md [22, 23] A A9271) → (IvX I9271 A9271) → (2 ≤ x9267.toInt) → (x9267.toInt ≤ 175) → (161 - x9267.toInt < (n9327 : Int)) → (0 < n9327) → GW κ 4 0 0 (wX q d I9271 A9271) 4 [(3, .int x9267), (0, .ref (q 49)), (1, .int z1), (2, .int z2)] [] := by
    intro n9327
    induction n9327 with
    | zero =>
      intro x9267 I9271 A9271 hI9271 hA9271 hV9271 h9324 h9325 m9328 m9328z
      exact absurd m9328z (Nat.lt_irrefl 0)
    | succ n9327 ih9329 =>
      intro x9267 I9271 A9271 hI9271 hA9271 hV9271 h9324 h9325 m9328 m9328z
      refine g_iload_n hk dX9_seekPairOf_4 rfl ?_
      refine g_sipush (v := 160) hk dX9_seekPairOf_5 (by decide) ?_
      refine g_icmp_ge (tgt := 91) (a := x9267.toInt) (b := 160) hk dX9_seekPairOf_8 (by decide) rfl rfl (fun c9330 => ?_) (fun c9330 => ?_)
      · skip
        exact g_vret hk hR ⟨I9271, A9271, (show Md [33, 34, 40, 41, 42] I I9271 from (Md.tr Md.rf hI9271 rfl)), (show Md [22, 23] A A9271 from (Md.tr Md.rf hA9271 rfl)), hV9271, rfl, rfl⟩ dX9_seekPairOf_91
      · skip
        refine g_aload_n hk dX9_seekPairOf_11 rfl ?_
        refine gX_r49_3 hk hin9 (List.mem_cons_of_mem _ (List.mem_append_left _ (List.mem_of_getElem? (i := 0) rfl))) dX9_seekPairOf_12 ?_
        refine g_iload_n hk dX9_seekPairOf_15 rfl ?_
        refine lX_31 (v := (A 31 x9267.toNatClampNeg)) hk (vp_in_iff.mpr ⟨by omega, by omega⟩) (congrFun (hA9271 31 rfl) _) dX9_seekPairOf_16 ?_
        have b9331l := Int32.le_toInt (A 31 x9267.toNatClampNeg)
        have b9331h := Int32.toInt_lt (A 31 x9267.toNatClampNeg)
        refine g_if_ne (tgt := 23) (a := (A 31 x9267.toNatClampNeg).toInt) hk dX9_seekPairOf_17 (by decide) rfl (fun c9332 => ?_) (fun c9332 => ?_)
        · skip
          refine g_aload_n hk dX9_seekPairOf_23 rfl ?_
          refine gX_r49_1 hk hin9 (List.mem_cons_of_mem _ (List.mem_append_left _ (List.mem_of_getElem? (i := 1) rfl))) dX9_seekPairOf_24 ?_
          refine g_aload_n hk dX9_seekPairOf_27 rfl ?_
          refine gX_r49_2 hk hin9 (List.mem_cons_of_mem _ (List.mem_append_left _ (List.mem_of_getElem? (i := 2) rfl))) dX9_seekPairOf_28 ?_
          refine g_iload_n hk dX9_seekPairOf_31 rfl ?_
          refine g_bipush (v := 16) hk dX9_seekPairOf_32 (by decide) ?_
          refine g_imul hk dX9_seekPairOf_34 ?_
          refine g_topi (fun y9333 ey9333 => ?_)
          have hy9333 : y9333.toInt = x9267.toInt * 16 := i32_mul ey9333 rfl rfl (by omega) (by omega)
          refine g_callV (n := 2) hk (k299_X2_takeRight l D zt q d I9271 A9271 y9333 hV9271) (SP.same _) (fun _ h => h) (gi_V (List.mem_cons_of_mem _ (List.mem_append_left _ (List.mem_of_getElem? (i := 3) rfl))) (List.mem_cons_of_mem _ (List.mem_append_left _ (List.mem_of_getElem? (i := 4) rfl))) (List.mem_cons_of_mem _ (List.mem_append_left _ (List.mem_of_getElem? (i := 5) rfl))) (List.mem_cons_of_mem _ (List.mem_append_left _ (List.mem_of_getElem? (i := 6) rfl))) (gi_sub (fun w h => (List.mem_cons_of_mem _ (List.mem_append_right _ (List.mem_append_right _ (List.mem_append_left _ h))))) zg_k299_X2_takeRight)) rfl rfl rfl (by decide +kernel) ⟨Nat.le_of_ble_eq_true rfl, Nat.le_of_ble_eq_true rfl⟩ 38 rfl rfl rfl rfl (Nat.le_of_ble_eq_true rfl) ⟨Nat.le_of_ble_eq_true rfl, Nat.le_of_ble_eq_true rfl⟩ dX9_seekPairOf_35 (fun v ty' w' hp hk' => ?_)
          obtain ⟨I9335, A9335, hI9335, hA9335, hV9335, rfl, rfl⟩ := hp
          show GW κ 4 0 0 (wX q d I9335 A9335) 38 [(3, .int x9267), (0, .ref (q 49)), (1, .int z1), (2, .int z2)] []
          refine g_aload_n hk dX9_seekPairOf_38 rfl ?_
          refine gX_r49_1 hk hin9 (List.mem_cons_of_mem _ (List.mem_append_left _ (List.mem_of_getElem? (i := 1) rfl))) dX9_seekPairOf_39 ?_
          refine g_aload_n hk dX9_seekPairOf_42 rfl ?_
          refine gX_i42 (v := (I9271 42)) hk hin9 (List.mem_cons_of_mem _ (List.mem_append_left _ (List.mem_of_getElem? (i := 7) rfl))) dX9_seekPairOf_43 (hI9335 42 rfl) ?_
          have b9336l := Int32.le_toInt (I9271 42)
          have b9336h := Int32.toInt_lt (I9271 42)
          refine g_if_ge (tgt := 54) (a := (I9271 42).toInt) hk dX9_seekPairOf_46 (by decide) rfl (fun c9337 => ?_) (fun c9337 => ?_)
          · skip
            refine g_aload_n hk dX9_seekPairOf_54 rfl ?_
            refine gX_i42 (v := (I9271 42)) hk hin9 (List.mem_cons_of_mem _ (List.mem_append_left _ (List.mem_of_getElem? (i := 7) rfl))) dX9_seekPairOf_55 (hI9335 42 rfl) ?_
            refine g_callV (n := 1) hk (k264_X2_isLess l D zt q d I9335 A9335 (I9271 42) hV9335) (SP.same _) (fun _ h => h) (gi_V (List.mem_cons_of_mem _ (List.mem_append_left _ (List.mem_of_getElem? (i := 8) rfl))) (List.mem_cons_of_mem _ (List.mem_append_left _ (List.mem_of_getElem? (i := 9) rfl))) (List.mem_cons_of_mem _ (List.mem_append_left _ (List.mem_of_getElem? (i := 10) rfl))) (List.mem_cons_of_mem _ (List.mem_append_left _ (List.mem_of_getElem? (i := 6) rfl))) (gi_sub (fun w h => (List.mem_cons_of_mem _ (List.mem_append_right _ (List.mem_append_right _ (List.mem_append_right _ (List.mem_append_left _ h)))))) zg_k264_X2_isLess)) rfl rfl rfl (by decide +kernel) ⟨Nat.le_of_ble_eq_true rfl, Nat.le_of_ble_eq_true rfl⟩ 38 rfl rfl rfl rfl (Nat.le_of_ble_eq_true rfl) ⟨Nat.le_of_ble_eq_true rfl, Nat.le_of_ble_eq_true rfl⟩ dX9_seekPairOf_58 (fun v ty' w' hp hk' => ?_)
            obtain ⟨I9341, A9341, hI9341, hA9341, hV9341, y9338, c9339, c9340, rfl, rfl⟩ := hp
            show GW κ 4 0 0 (wX q d I9341 A9341) 61 [(3, .int x9267), (0, .ref (q 49)), (1, .int z1), (2, .int z2)] [.int y9338]
            refine g_if_eq (tgt := 85) (a := y9338.toInt) hk dX9_seekPairOf_61 (by decide) rfl (fun c9342 => ?_) (fun c9342 => ?_)
            · skip
              obtain ⟨y9343, ey9343⟩ : ∃ y : Int32, y = x9267 + Int32.ofInt 1 := ⟨_, rfl⟩
              have hy9343 : y9343.toInt = x9267.toInt + 1 := i32_add ey9343 rfl (by decide) (by omega) (by omega)
              refine g_iinc (v := y9343) (lv' := [(3, .int y9343), (0, .ref (q 49)), (1, .int z1), (2, .int z2)]) hk 0 dX9_seekPairOf_85 rfl ey9343.symm (by decide) rfl ?_
              refine g_goto (tgt := 4) hk dX9_seekPairOf_88 (by decide) ?_
              exact g_lv (List.forall_mem_cons.mpr ⟨List.mem_of_getElem? (i := 0) rfl, (List.forall_mem_cons.mpr ⟨List.mem_of_getElem? (i := 1) rfl, (List.forall_mem_cons.mpr ⟨List.mem_of_getElem? (i := 2) rfl, (List.forall_mem_cons.mpr ⟨List.mem_of_getElem? (i := 3) rfl, (fun _ h => absurd h List.not_mem_nil)⟩)⟩)⟩)⟩) (ih9329 y9343 I9341 A9341 (show Md [33, 34, 40, 41, 42] I I9341 from Md.tr hI9271 (show Md [33, 34, 40, 41, 42] I9271 I9341 from (Md.tr (Md.tr Md.rf hI9335 rfl) hI9341 rfl)) rfl) (show Md [22, 23] A A9341 from Md.tr hA9271 (show Md [22, 23] A9271 A9341 from (Md.tr (Md.tr Md.rf hA9335 rfl) hA9341 rfl)) rfl) hV9341 (by omega) (by omega) (by omega) (by omega))
            · skip
              refine g_aload_n hk dX9_seekPairOf_64 rfl ?_
              refine g_iload_n hk dX9_seekPairOf_65 rfl ?_
              refine pX_i40 hk hin9 (List.mem_cons_of_mem _ (List.mem_append_left _ (List.mem_of_getElem? (i := 11) rfl))) dX9_seekPairOf_66 ?_
              refine g_aload_n hk dX9_seekPairOf_69 rfl ?_
              refine g_iload_n hk dX9_seekPairOf_70 rfl ?_
              refine pX_i41 hk hin9 (List.mem_cons_of_mem _ (List.mem_append_left _ (List.mem_of_getElem? (i := 12) rfl))) dX9_seekPairOf_71 ?_
              refine g_aload_n hk dX9_seekPairOf_74 rfl ?_
              refine g_aload_n hk dX9_seekPairOf_75 rfl ?_
              refine gX_r49_1 hk hin9 (List.mem_cons_of_mem _ (List.mem_append_left _ (List.mem_of_getElem? (i := 1) rfl))) dX9_seekPairOf_76 ?_
              refine g_callV (n := 0) hk (k237_X2_laidDistance l D zt q d (upd (upd I9341 40 z1) 41 x9267) A9341  ⟨(IvX_f0 (I := I9341) (A := A9341) hV9341), (IvX_f18 (I := I9341) (A := A9341) hV9341), (IvX_f30 (I := I9341) (A := A9341) hV9341), (IvX_f31 (I := I9341) (A := A9341) hV9341), (IvX_a4 (I := I9341) (A := A9341) hV9341), (IvX_a9 (I := I9341) (A := A9341) hV9341), trivial⟩) (SP.same _) (fun _ h => h) (gi_V (List.mem_cons_of_mem _ (List.mem_append_left _ (List.mem_of_getElem? (i := 13) rfl))) (List.mem_cons_of_mem _ (List.mem_append_left _ (List.mem_of_getElem? (i := 14) rfl))) (List.mem_cons_of_mem _ (List.mem_append_left _ (List.mem_of_getElem? (i := 15) rfl))) (List.mem_cons_of_mem _ (List.mem_append_left _ (List.mem_of_getElem? (i := 6) rfl))) (gi_sub (fun w h => (List.mem_cons_of_mem _ (List.mem_append_right _ (List.mem_append_right _ (List.mem_append_right _ (List.mem_append_right _ (List.mem_append_left _ h))))))) zg_k237_X2_laidDistance)) rfl rfl rfl (by decide +kernel) ⟨Nat.le_of_ble_eq_true rfl, Nat.le_of_ble_eq_true rfl⟩ 38 rfl rfl rfl rfl (Nat.le_of_ble_eq_true rfl) ⟨Nat.le_of_ble_eq_true rfl, Nat.le_of_ble_eq_true rfl⟩ dX9_seekPairOf_79 (fun v ty' w' hp hk' => ?_)
              obtain ⟨y9344, rfl, rfl⟩ := hp
              show GW κ 4 0 0 (wX q d (upd (upd I9341 40 z1) 41 x9267) A9341) 82 [(3, .int x9267), (0, .ref (q 49)), (1, .int z1), (2, .int z2)] [.int y9344, .ref (q 49)]
              refine pX_i42 hk hin9 (List.mem_cons_of_mem _ (List.mem_append_left _ (List.mem_of_getElem? (i := 7) rfl))) dX9_seekPairOf_82 ?_
              obtain ⟨y9345, ey9345⟩ : ∃ y : Int32, y = x9267 + Int32.ofInt 1 := ⟨_, rfl⟩
              have hy9345 : y9345.toInt = x9267.toInt + 1 := i32_add ey9345 rfl (by decide) (by omega) (by omega)
              refine g_iinc (v := y9345) (lv' := [(3, .int y9345), (0, .ref (q 49)), (1, .int z1), (2, .int z2)]) hk 0 dX9_seekPairOf_85 rfl ey9345.symm (by decide) rfl ?_
              refine g_goto (tgt := 4) hk dX9_seekPairOf_88 (by decide) ?_
              exact g_lv (List.forall_mem_cons.mpr ⟨List.mem_of_getElem? (i := 0) rfl, (List.forall_mem_cons.mpr ⟨List.mem_of_getElem? (i := 1) rfl, (List.forall_mem_cons.mpr ⟨List.mem_of_getElem? (i := 2) rfl, (List.forall_mem_cons.mpr ⟨List.mem_of_getElem? (i := 3) rfl, (fun _ h => absurd h List.not_mem_nil)⟩)⟩)⟩)⟩) (ih9329 y9345 (upd (upd (upd I9341 40 z1) 41 x9267) 42 y9344) A9341 (show Md [33, 34, 40, 41, 42] I (upd (upd (upd I9341 40 z1) 41 x9267) 42 y9344) from Md.tr hI9271 (show Md [33, 34, 40, 41, 42] I9271 (upd (upd (upd I9341 40 z1) 41 x9267) 42 y9344) from (Md.up (Md.up (Md.up (Md.tr (Md.tr Md.rf hI9335 rfl) hI9341 rfl) rfl) rfl) rfl)) rfl) (show Md [22, 23] A A9341 from Md.tr hA9271 (show Md [22, 23] A9271 A9341 from (Md.tr (Md.tr Md.rf hA9335 rfl) hA9341 rfl)) rfl) ⟨(IvX_f0 (I := I9341) (A := A9341) hV9341), (IvX_f18 (I := I9341) (A := A9341) hV9341), (IvX_f30 (I := I9341) (A := A9341) hV9341), (IvX_f31 (I := I9341) (A := A9341) hV9341), (IvX_a4 (I := I9341) (A := A9341) hV9341), (IvX_a9 (I := I9341) (A := A9341) hV9341), trivial⟩ (by omega) (by omega) (by omega) (by omega))
          · skip
            refine g_ldc (v := 2147483647) hk (List.mem_cons_of_mem _ (List.mem_append_left _ (List.mem_of_getElem? (i := 16) rfl))) dX9_seekPairOf_49 ?_
            refine g_goto (tgt := 58) hk dX9_seekPairOf_51 (by decide) ?_
            have k9346 : (2147483647 : Int32).toInt = 2147483647 := rfl
            refine g_callV (n := 1) hk (k264_X2_isLess l D zt q d I9335 A9335 2147483647 hV9335) (SP.same _) (fun _ h => h) (gi_V (List.mem_cons_of_mem _ (List.mem_append_left _ (List.mem_of_getElem? (i := 8) rfl))) (List.mem_cons_of_mem _ (List.mem_append_left _ (List.mem_of_getElem? (i := 9) rfl))) (List.mem_cons_of_mem _ (List.mem_append_left _ (List.mem_of_getElem? (i := 10) rfl))) (List.mem_cons_of_mem _ (List.mem_append_left _ (List.mem_of_getElem? (i := 6) rfl))) (gi_sub (fun w h => (List.mem_cons_of_mem _ (List.mem_append_right _ (List.mem_append_right _ (List.mem_append_right _ (List.mem_append_left _ h)))))) zg_k264_X2_isLess)) rfl rfl rfl (by decide +kernel) ⟨Nat.le_of_ble_eq_true rfl, Nat.le_of_ble_eq_true rfl⟩ 38 rfl rfl rfl rfl (Nat.le_of_ble_eq_true rfl) ⟨Nat.le_of_ble_eq_true rfl, Nat.le_of_ble_eq_true rfl⟩ dX9_seekPairOf_58 (fun v ty' w' hp hk' => ?_)
            obtain ⟨I9350, A9350, hI9350, hA9350, hV9350, y9347, c9348, c9349, rfl, rfl⟩ := hp
            show GW κ 4 0 0 (wX q d I9350 A9350) 61 [(3, .int x9267), (0, .ref (q 49)), (1, .int z1), (2, .int z2)] [.int y9347]
            refine g_if_eq (tgt := 85) (a := y9347.toInt) hk dX9_seekPairOf_61 (by decide) rfl (fun c9351 => ?_) (fun c9351 => ?_)
            · skip
              obtain ⟨y9352, ey9352⟩ : ∃ y : Int32, y = x9267 + Int32.ofInt 1 := ⟨_, rfl⟩
              have hy9352 : y9352.toInt = x9267.toInt + 1 := i32_add ey9352 rfl (by decide) (by omega) (by omega)
              refine g_iinc (v := y9352) (lv' := [(3, .int y9352), (0, .ref (q 49)), (1, .int z1), (2, .int z2)]) hk 0 dX9_seekPairOf_85 rfl ey9352.symm (by decide) rfl ?_
              refine g_goto (tgt := 4) hk dX9_seekPairOf_88 (by decide) ?_
              exact g_lv (List.forall_mem_cons.mpr ⟨List.mem_of_getElem? (i := 0) rfl, (List.forall_mem_cons.mpr ⟨List.mem_of_getElem? (i := 1) rfl, (List.forall_mem_cons.mpr ⟨List.mem_of_getElem? (i := 2) rfl, (List.forall_mem_cons.mpr ⟨List.mem_of_getElem? (i := 3) rfl, (fun _ h => absurd h List.not_mem_nil)⟩)⟩)⟩)⟩) (ih9329 y9352 I9350 A9350 (show Md [33, 34, 40, 41, 42] I I9350 from Md.tr hI9271 (show Md [33, 34, 40, 41, 42] I9271 I9350 from (Md.tr (Md.tr Md.rf hI9335 rfl) hI9350 rfl)) rfl) (show Md [22, 23] A A9350 from Md.tr hA9271 (show Md [22, 23] A9271 A9350 from (Md.tr (Md.tr Md.rf hA9335 rfl) hA9350 rfl)) rfl) hV9350 (by omega) (by omega) (by omega) (by omega))
            · skip
              refine g_aload_n hk dX9_seekPairOf_64 rfl ?_
              refine g_iload_n hk dX9_seekPairOf_65 rfl ?_
              refine pX_i40 hk hin9 (List.mem_cons_of_mem _ (List.mem_append_left _ (List.mem_of_getElem? (i := 11) rfl))) dX9_seekPairOf_66 ?_
              refine g_aload_n hk dX9_seekPairOf_69 rfl ?_
              refine g_iload_n hk dX9_seekPairOf_70 rfl ?_
              refine pX_i41 hk hin9 (List.mem_cons_of_mem _ (List.mem_append_left _ (List.mem_of_getElem? (i := 12) rfl))) dX9_seekPairOf_71 ?_
              refine g_aload_n hk dX9_seekPairOf_74 rfl ?_
              refine g_aload_n hk dX9_seekPairOf_75 rfl ?_
              refine gX_r49_1 hk hin9 (List.mem_cons_of_mem _ (List.mem_append_left _ (List.mem_of_getElem? (i := 1) rfl))) dX9_seekPairOf_76 ?_
              refine g_callV (n := 0) hk (k237_X2_laidDistance l D zt q d (upd (upd I9350 40 z1) 41 x9267) A9350  ⟨(IvX_f0 (I := I9350) (A := A9350) hV9350), (IvX_f18 (I := I9350) (A := A9350) hV9350), (IvX_f30 (I := I9350) (A := A9350) hV9350), (IvX_f31 (I := I9350) (A := A9350) hV9350), (IvX_a4 (I := I9350) (A := A9350) hV9350), (IvX_a9 (I := I9350) (A := A9350) hV9350), trivial⟩) (SP.same _) (fun _ h => h) (gi_V (List.mem_cons_of_mem _ (List.mem_append_left _ (List.mem_of_getElem? (i := 13) rfl))) (List.mem_cons_of_mem _ (List.mem_append_left _ (List.mem_of_getElem? (i := 14) rfl))) (List.mem_cons_of_mem _ (List.mem_append_left _ (List.mem_of_getElem? (i := 15) rfl))) (List.mem_cons_of_mem _ (List.mem_append_left _ (List.mem_of_getElem? (i := 6) rfl))) (gi_sub (fun w h => (List.mem_cons_of_mem _ (List.mem_append_right _ (List.mem_append_right _ (List.mem_append_right _ (List.mem_append_right _ (List.mem_append_left _ h))))))) zg_k237_X2_laidDistance)) rfl rfl rfl (by decide +kernel) ⟨Nat.le_of_ble_eq_true rfl, Nat.le_of_ble_eq_true rfl⟩ 38 rfl rfl rfl rfl (Nat.le_of_ble_eq_true rfl) ⟨Nat.le_of_ble_eq_true rfl, Nat.le_of_ble_eq_true rfl⟩ dX9_seekPairOf_79 (fun v ty' w' hp hk' => ?_)
              obtain ⟨y9353, rfl, rfl⟩ := hp
              show GW κ 4 0 0 (wX q d (upd (upd I9350 40 z1) 41 x9267) A9350) 82 [(3, .int x9267), (0, .ref (q 49)), (1, .int z1), (2, .int z2)] [.int y9353, .ref (q 49)]
              refine pX_i42 hk hin9 (List.mem_cons_of_mem _ (List.mem_append_left _ (List.mem_of_getElem? (i := 7) rfl))) dX9_seekPairOf_82 ?_
              obtain ⟨y9354, ey9354⟩ : ∃ y : Int32, y = x9267 + Int32.ofInt 1 := ⟨_, rfl⟩
              have hy9354 : y9354.toInt = x9267.toInt + 1 := i32_add ey9354 rfl (by decide) (by omega) (by omega)
              refine g_iinc (v := y9354) (lv' := [(3, .int y9354), (0, .ref (q 49)), (1, .int z1), (2, .int z2)]) hk 0 dX9_seekPairOf_85 rfl ey9354.symm (by decide) rfl ?_
              refine g_goto (tgt := 4) hk dX9_seekPairOf_88 (by decide) ?_
              exact g_lv (List.forall_mem_cons.mpr ⟨List.mem_of_getElem? (i := 0) rfl, (List.forall_mem_cons.mpr ⟨List.mem_of_getElem? (i := 1) rfl, (List.forall_mem_cons.mpr ⟨List.mem_of_getElem? (i := 2) rfl, (List.forall_mem_cons.mpr ⟨List.mem_of_getElem? (i := 3) rfl, (fun _ h => absurd h List.not_mem_nil)⟩)⟩)⟩)⟩) (ih9329 y9354 (upd (upd (upd I9350 40 z1) 41 x9267) 42 y9353) A9350 (show Md [33, 34, 40, 41, 42] I (upd (upd (upd I9350 40 z1) 41 x9267) 42 y9353) from Md.tr hI9271 (show Md [33, 34, 40, 41, 42] I9271 (upd (upd (upd I9350 40 z1) 41 x9267) 42 y9353) from (Md.up (Md.up (Md.up (Md.tr (Md.tr Md.rf hI9335 rfl) hI9350 rfl) rfl) rfl) rfl)) rfl) (show Md [22, 23] A A9350 from Md.tr hA9271 (show Md [22, 23] A9271 A9350 from (Md.tr (Md.tr Md.rf hA9335 rfl) hA9350 rfl)) rfl) ⟨(IvX_f0 (I := I9350) (A := A9350) hV9350), (IvX_f18 (I := I9350) (A := A9350) hV9350), (IvX_f30 (I := I9350) (A := A9350) hV9350), (IvX_f31 (I := I9350) (A := A9350) hV9350), (IvX_a4 (I := I9350) (A := A9350) hV9350), (IvX_a9 (I := I9350) (A := A9350) hV9350), trivial⟩ (by omega) (by omega) (by omega) (by omega))
        · skip
          refine g_goto (tgt := 85) hk dX9_seekPairOf_20 (by decide) ?_
          obtain ⟨y9355, ey9355⟩ : ∃ y : Int32, y = x9267 + Int32.ofInt 1 := ⟨_, rfl⟩
          have hy9355 : y9355.toInt = x9267.toInt + 1 := i32_add ey9355 rfl (by decide) (by omega) (by omega)
          refine g_iinc (v := y9355) (lv' := [(3, .int y9355), (0, .ref (q 49)), (1, .int z1), (2, .int z2)]) hk 0 dX9_seekPairOf_85 rfl ey9355.symm (by decide) rfl ?_
          refine g_goto (tgt := 4) hk dX9_seekPairOf_88 (by decide) ?_
          exact g_lv (List.forall_mem_cons.mpr ⟨List.mem_of_getElem? (i := 0) rfl, (List.forall_mem_cons.mpr ⟨List.mem_of_getElem? (i := 1) rfl, (List.forall_mem_cons.mpr ⟨List.mem_of_getElem? (i := 2) rfl, (List.forall_mem_cons.mpr ⟨List.mem_of_getElem? (i := 3) rfl, (fun _ h => absurd h List.not_mem_nil)⟩)⟩)⟩)⟩) (ih9329 y9355 I9271 A9271 (show Md [33, 34, 40, 41, 42] I I9271 from Md.tr hI9271 (show Md [33, 34, 40, 41, 42] I9271 I9271 from Md.rf) rfl) (show Md [22, 23] A A9271 from Md.tr hA9271 (show Md [22, 23] A9271 A9271 from Md.rf) rfl) hV9271 (by omega) (by omega) (by omega) (by omega))
  obtain ⟨n9356, n9356a, n9356b⟩ : ∃ n : Nat, 161 - y9266.toInt < (n : Int) ∧ 0 < n := ⟨((161 - y9266.toInt : Int)).toNat + 1, by omega, by omega⟩
  exact lp9326 n9356 y9266 I A Md.rf Md.rf hIv (by omega) (by omega) n9356a n9356b
def wo_k302_X9_findPair : List Cond := [Cond.fieldLink RX9 86 "WarpDesk$Stretches" "pairLesser" "I", Cond.fieldLink RX9 89 "WarpDesk$Stretches" "pairGreater" "I", Cond.fieldLink RX9 92 "WarpDesk$Stretches" "pairDistance" "I", Cond.methodLink RX9 50 yX9_bringAll, Cond.instanceMethod yX9_bringAll, Cond.selects RX9 yX9_bringAll yX9_bringAll, Cond.initialized RX9, Cond.fieldLink RX9 15 "WarpDesk$Stretches" "isThere" "[Z", Cond.fieldLink RX9 29 "WarpDesk$Stretches" "fit" "LWarpDesk$Fit;", Cond.fieldLink RX9 9 "WarpDesk$Stretches" "rows" "[I", Cond.methodLink RX9 66 yX2_takeLeft, Cond.instanceMethod yX2_takeLeft, Cond.selects RX2 yX2_takeLeft yX2_takeLeft, Cond.initialized RX2, Cond.methodLink RX9 95 yX9_seekPairOf, Cond.instanceMethod yX9_seekPairOf, Cond.selects RX9 yX9_seekPairOf yX9_seekPairOf]
def wz_k302_X9_findPair : List Cond := .code yX9_findPair cX9_findPair 3 none :: (wo_k302_X9_findPair ++ (wsX90 ++ (wz_k293_X9_bringAll ++ (wz_k297_X2_takeLeft ++ (wz_k303_X9_seekPairOf ++ ([] : List Cond))))))
theorem zg_k302_X9_findPair : ∀ w ∈ wz_k302_X9_findPair, goodWord w = true := zg_cons rfl (zg_app (by decide +kernel) (zg_app zgU_wsX90 (zg_app zg_k293_X9_bringAll (zg_app zg_k297_X2_takeLeft (zg_app zg_k303_X9_seekPairOf zg_nil)))))
theorem zi_k302_X9_findPair : ∀ w ∈ wz_k302_X9_findPair, w ∈ lw_tbl := zi_cons zw_1292 (zi_app (zi_cons zw_454 (zi_cons zw_456 (zi_cons zw_458 (zi_cons zw_1255 (zi_cons zw_1257 (zi_cons zw_39 (zi_cons zw_114 (zi_cons zw_449 (zi_cons zw_447 (zi_cons zw_448 (zi_cons zw_1274 (zi_cons zw_1275 (zi_cons zw_1276 (zi_cons zw_112 (zi_cons zw_1293 (zi_cons zw_1295 (zi_cons zw_42 zi_nil))))))))))))))))) (zi_app inX9 (zi_app zi_k293_X9_bringAll (zi_app zi_k297_X2_takeLeft (zi_app zi_k303_X9_seekPairOf zi_nil)))))
set_option maxHeartbeats 4000000 in
set_option maxRecDepth 100000 in
theorem k302_X9_findPair (l : Launch) (D : va_G) (zt : Nat × Nat × Nat × (Nat → Nat) × (Nat → Nat)) (q : Nat → Nat) (d : Nat → ClassId) (I : Nat → Int32) (A : Nat → Nat → Int32) (z1 : Int32) (hIv : IvX I A) (hp0 : 2 ≤ z1.toInt) (hp1 : z1.toInt ≤ 16) : GM l D zt (tyX d) yX9_findPair wz_k302_X9_findPair ({ frames := 5, cells := 0, slots := 0, locals := 116 } : Room) [.ref (q 49), .int z1] (wX q d I A) (fun v _ w' => ∃ (I' : Nat → Int32) (A' : Nat → Nat → Int32), Md [28, 30, 31, 32, 33, 34, 40, 41, 42] I I' ∧ Md [21, 22, 23, 30, 31] A A' ∧ IvX I' A' ∧ v = none ∧ w' = wX q d I' A') 0 0 := by
  refine GM.of (cc := cX9_findPair) (maxL := 3) (ret := none) (own := RX9) (lv := [(0, .ref (q 49)), (1, .int z1)]) (by decide) rfl rfl (Nat.le_of_ble_eq_true rfl) rfl (fun κ sz hk hR hN => ?_)
  have hin9 : ∀ w ∈ u_ws RX9 TX9 11, w ∈ wz_k302_X9_findPair := fun w h => (List.mem_cons_of_mem _ (List.mem_append_right _ (List.mem_append_left _ h)))
  refine g_aload_n hk dX9_findPair_0 rfl ?_
  refine g_bipush (v := (-2)) hk dX9_findPair_1 (by decide) ?_
  refine pX_i40 hk hin9 (List.mem_cons_of_mem _ (List.mem_append_left _ (List.mem_of_getElem? (i := 0) rfl))) dX9_findPair_3 ?_
  refine g_aload_n hk dX9_findPair_6 rfl ?_
  refine g_bipush (v := (-2)) hk dX9_findPair_7 (by decide) ?_
  refine pX_i41 hk hin9 (List.mem_cons_of_mem _ (List.mem_append_left _ (List.mem_of_getElem? (i := 1) rfl))) dX9_findPair_9 ?_
  refine g_aload_n hk dX9_findPair_12 rfl ?_
  refine g_bipush (v := (-2)) hk dX9_findPair_13 (by decide) ?_
  refine pX_i42 hk hin9 (List.mem_cons_of_mem _ (List.mem_append_left _ (List.mem_of_getElem? (i := 2) rfl))) dX9_findPair_15 ?_
  refine g_aload_n hk dX9_findPair_18 rfl ?_
  refine g_iload_n hk dX9_findPair_19 rfl ?_
  refine g_callV (n := 1) hk (k293_X9_bringAll l D zt q d (upd (upd (upd I 40 (-2)) 41 (-2)) 42 (-2)) A z1 ⟨(IvX_f0 (I := I) (A := A) hIv), (IvX_f18 (I := I) (A := A) hIv), (IvX_f30 (I := I) (A := A) hIv), (IvX_f31 (I := I) (A := A) hIv), (IvX_a4 (I := I) (A := A) hIv), (IvX_a9 (I := I) (A := A) hIv), trivial⟩) (SP.same _) (fun _ h => h) (gi_V (List.mem_cons_of_mem _ (List.mem_append_left _ (List.mem_of_getElem? (i := 3) rfl))) (List.mem_cons_of_mem _ (List.mem_append_left _ (List.mem_of_getElem? (i := 4) rfl))) (List.mem_cons_of_mem _ (List.mem_append_left _ (List.mem_of_getElem? (i := 5) rfl))) (List.mem_cons_of_mem _ (List.mem_append_left _ (List.mem_of_getElem? (i := 6) rfl))) (gi_sub (fun w h => (List.mem_cons_of_mem _ (List.mem_append_right _ (List.mem_append_right _ (List.mem_append_left _ h))))) zg_k293_X9_bringAll)) rfl rfl rfl (by decide +kernel) ⟨Nat.le_of_ble_eq_true rfl, Nat.le_of_ble_eq_true rfl⟩ 49 rfl rfl rfl rfl (Nat.le_of_ble_eq_true rfl) ⟨Nat.le_of_ble_eq_true rfl, Nat.le_of_ble_eq_true rfl⟩ dX9_findPair_20 (fun v ty' w' hp hk' => ?_)
  obtain ⟨I9256, A9256, hI9256, hA9256, hV9256, rfl, rfl⟩ := hp
  show GW κ 3 0 0 (wX q d I9256 A9256) 23 [(0, .ref (q 49)), (1, .int z1)] []
  refine g_iconst (v := 0) hk dX9_findPair_23 (by decide) ?_
  refine g_istore_n (lv' := [(2, .int 0), (0, .ref (q 49)), (1, .int z1)]) hk dX9_findPair_24 (by decide) rfl ?_
  have lp9391 : ∀ (n9392 : Nat) (x9257 : Int32) (I9260 : Nat → Int32) (A9260 : Nat → Nat → Int32), (Md [33, 34, 40, 41, 42] I9256 I9260) → (Md [21, 22, 23] A9256 A9260) → (IvX I9260 A9260) → (0 ≤ x9257.toInt) → (x9257.toInt ≤ 160) → (161 - x9257.toInt < (n9392 : Int)) → (0 < n9392) → GW κ 3 0 0 (wX q d I9260 A9260) 25 [(2, .int x9257), (0, .ref (q 49)), (1, .int z1)] [] := by
    intro n9392
    induction n9392 with
    | zero =>
      intro x9257 I9260 A9260 hI9260 hA9260 hV9260 h9389 h9390 m9393 m9393z
      exact absurd m9393z (Nat.lt_irrefl 0)
    | succ n9392 ih9394 =>
      intro x9257 I9260 A9260 hI9260 hA9260 hV9260 h9389 h9390 m9393 m9393z
      refine g_iload_n hk dX9_findPair_25 rfl ?_
      refine g_sipush (v := 160) hk dX9_findPair_26 (by decide) ?_
      refine g_icmp_ge (tgt := 68) (a := x9257.toInt) (b := 160) hk dX9_findPair_29 (by decide) rfl rfl (fun c9395 => ?_) (fun c9395 => ?_)
      · skip
        exact g_vret hk hR ⟨I9260, A9260, (show Md [28, 30, 31, 32, 33, 34, 40, 41, 42] I I9260 from (Md.tr (Md.tr (Md.up (Md.up (Md.up Md.rf rfl) rfl) rfl) hI9256 rfl) hI9260 rfl)), (show Md [21, 22, 23, 30, 31] A A9260 from (Md.tr (Md.tr Md.rf hA9256 rfl) hA9260 rfl)), hV9260, rfl, rfl⟩ dX9_findPair_68
      · skip
        refine g_aload_n hk dX9_findPair_32 rfl ?_
        refine gX_r49_3 hk hin9 (List.mem_cons_of_mem _ (List.mem_append_left _ (List.mem_of_getElem? (i := 7) rfl))) dX9_findPair_33 ?_
        refine g_iload_n hk dX9_findPair_36 rfl ?_
        refine lX_31 (v := (A9256 31 x9257.toNatClampNeg)) hk (vp_in_iff.mpr ⟨by omega, by omega⟩) (congrFun (hA9260 31 rfl) _) dX9_findPair_37 ?_
        have b9396l := Int32.le_toInt (A9256 31 x9257.toNatClampNeg)
        have b9396h := Int32.toInt_lt (A9256 31 x9257.toNatClampNeg)
        refine g_if_eq (tgt := 62) (a := (A9256 31 x9257.toNatClampNeg).toInt) hk dX9_findPair_38 (by decide) rfl (fun c9397 => ?_) (fun c9397 => ?_)
        · skip
          obtain ⟨y9398, ey9398⟩ : ∃ y : Int32, y = x9257 + Int32.ofInt 1 := ⟨_, rfl⟩
          have hy9398 : y9398.toInt = x9257.toInt + 1 := i32_add ey9398 rfl (by decide) (by omega) (by omega)
          refine g_iinc (v := y9398) (lv' := [(2, .int y9398), (0, .ref (q 49)), (1, .int z1)]) hk 0 dX9_findPair_62 rfl ey9398.symm (by decide) rfl ?_
          refine g_goto (tgt := 25) hk dX9_findPair_65 (by decide) ?_
          exact g_lv (List.forall_mem_cons.mpr ⟨List.mem_of_getElem? (i := 0) rfl, (List.forall_mem_cons.mpr ⟨List.mem_of_getElem? (i := 1) rfl, (List.forall_mem_cons.mpr ⟨List.mem_of_getElem? (i := 2) rfl, (fun _ h => absurd h List.not_mem_nil)⟩)⟩)⟩) (ih9394 y9398 I9260 A9260 (show Md [33, 34, 40, 41, 42] I9256 I9260 from Md.tr hI9260 (show Md [33, 34, 40, 41, 42] I9260 I9260 from Md.rf) rfl) (show Md [21, 22, 23] A9256 A9260 from Md.tr hA9260 (show Md [21, 22, 23] A9260 A9260 from Md.rf) rfl) hV9260 (by omega) (by omega) (by omega) (by omega))
        · skip
          refine g_aload_n hk dX9_findPair_41 rfl ?_
          refine gX_r49_1 hk hin9 (List.mem_cons_of_mem _ (List.mem_append_left _ (List.mem_of_getElem? (i := 8) rfl))) dX9_findPair_42 ?_
          refine g_aload_n hk dX9_findPair_45 rfl ?_
          refine gX_r49_2 hk hin9 (List.mem_cons_of_mem _ (List.mem_append_left _ (List.mem_of_getElem? (i := 9) rfl))) dX9_findPair_46 ?_
          refine g_iload_n hk dX9_findPair_49 rfl ?_
          refine g_bipush (v := 16) hk dX9_findPair_50 (by decide) ?_
          refine g_imul hk dX9_findPair_52 ?_
          refine g_topi (fun y9399 ey9399 => ?_)
          have hy9399 : y9399.toInt = x9257.toInt * 16 := i32_mul ey9399 rfl rfl (by omega) (by omega)
          refine g_callV (n := 2) hk (k297_X2_takeLeft l D zt q d I9260 A9260 y9399 hV9260) (SP.same _) (fun _ h => h) (gi_V (List.mem_cons_of_mem _ (List.mem_append_left _ (List.mem_of_getElem? (i := 10) rfl))) (List.mem_cons_of_mem _ (List.mem_append_left _ (List.mem_of_getElem? (i := 11) rfl))) (List.mem_cons_of_mem _ (List.mem_append_left _ (List.mem_of_getElem? (i := 12) rfl))) (List.mem_cons_of_mem _ (List.mem_append_left _ (List.mem_of_getElem? (i := 13) rfl))) (gi_sub (fun w h => (List.mem_cons_of_mem _ (List.mem_append_right _ (List.mem_append_right _ (List.mem_append_right _ (List.mem_append_left _ h)))))) zg_k297_X2_takeLeft)) rfl rfl rfl (by decide +kernel) ⟨Nat.le_of_ble_eq_true rfl, Nat.le_of_ble_eq_true rfl⟩ 38 rfl rfl rfl rfl (Nat.le_of_ble_eq_true rfl) ⟨Nat.le_of_ble_eq_true rfl, Nat.le_of_ble_eq_true rfl⟩ dX9_findPair_53 (fun v ty' w' hp hk' => ?_)
          obtain ⟨I9401, A9401, hI9401, hA9401, hV9401, rfl, rfl⟩ := hp
          show GW κ 3 0 0 (wX q d I9401 A9401) 56 [(2, .int x9257), (0, .ref (q 49)), (1, .int z1)] []
          refine g_aload_n hk dX9_findPair_56 rfl ?_
          refine g_iload_n hk dX9_findPair_57 rfl ?_
          refine g_iload_n hk dX9_findPair_58 rfl ?_
          refine g_callV (n := 2) hk (k303_X9_seekPairOf l D zt q d I9401 A9401 x9257 z1 hV9401 (by omega) (by omega) (by omega) (by omega)) (SP.same _) (fun _ h => h) (gi_V (List.mem_cons_of_mem _ (List.mem_append_left _ (List.mem_of_getElem? (i := 14) rfl))) (List.mem_cons_of_mem _ (List.mem_append_left _ (List.mem_of_getElem? (i := 15) rfl))) (List.mem_cons_of_mem _ (List.mem_append_left _ (List.mem_of_getElem? (i := 16) rfl))) (List.mem_cons_of_mem _ (List.mem_append_left _ (List.mem_of_getElem? (i := 6) rfl))) (gi_sub (fun w h => (List.mem_cons_of_mem _ (List.mem_append_right _ (List.mem_append_right _ (List.mem_append_right _ (List.mem_append_right _ (List.mem_append_left _ h))))))) zg_k303_X9_seekPairOf)) rfl rfl rfl (by decide +kernel) ⟨Nat.le_of_ble_eq_true rfl, Nat.le_of_ble_eq_true rfl⟩ 49 rfl rfl rfl rfl (Nat.le_of_ble_eq_true rfl) ⟨Nat.le_of_ble_eq_true rfl, Nat.le_of_ble_eq_true rfl⟩ dX9_findPair_59 (fun v ty' w' hp hk' => ?_)
          obtain ⟨I9403, A9403, hI9403, hA9403, hV9403, rfl, rfl⟩ := hp
          show GW κ 3 0 0 (wX q d I9403 A9403) 62 [(2, .int x9257), (0, .ref (q 49)), (1, .int z1)] []
          obtain ⟨y9404, ey9404⟩ : ∃ y : Int32, y = x9257 + Int32.ofInt 1 := ⟨_, rfl⟩
          have hy9404 : y9404.toInt = x9257.toInt + 1 := i32_add ey9404 rfl (by decide) (by omega) (by omega)
          refine g_iinc (v := y9404) (lv' := [(2, .int y9404), (0, .ref (q 49)), (1, .int z1)]) hk 0 dX9_findPair_62 rfl ey9404.symm (by decide) rfl ?_
          refine g_goto (tgt := 25) hk dX9_findPair_65 (by decide) ?_
          exact g_lv (List.forall_mem_cons.mpr ⟨List.mem_of_getElem? (i := 0) rfl, (List.forall_mem_cons.mpr ⟨List.mem_of_getElem? (i := 1) rfl, (List.forall_mem_cons.mpr ⟨List.mem_of_getElem? (i := 2) rfl, (fun _ h => absurd h List.not_mem_nil)⟩)⟩)⟩) (ih9394 y9404 I9403 A9403 (show Md [33, 34, 40, 41, 42] I9256 I9403 from Md.tr hI9260 (show Md [33, 34, 40, 41, 42] I9260 I9403 from (Md.tr (Md.tr Md.rf hI9401 rfl) hI9403 rfl)) rfl) (show Md [21, 22, 23] A9256 A9403 from Md.tr hA9260 (show Md [21, 22, 23] A9260 A9403 from (Md.tr (Md.tr Md.rf hA9401 rfl) hA9403 rfl)) rfl) hV9403 (by omega) (by omega) (by omega) (by omega))
  have k9406 : (0 : Int32).toInt = 0 := rfl
  obtain ⟨n9405, n9405a, n9405b⟩ : ∃ n : Nat, 161 - 0 < (n : Int) ∧ 0 < n := ⟨((161 - 0 : Int)).toNat + 1, by omega, by omega⟩
  exact lp9391 n9405 0 I9256 A9256 Md.rf Md.rf hV9256 (by omega) (by omega) n9405a n9405b
def wo_k301_X11_pair : List Cond := [Cond.methodLink RX11 196 yX11_isStretch, Cond.static yX11_isStretch, Cond.initialized RX11, Cond.fieldLink RX11 81 "WarpDesk" "stretches" "LWarpDesk$Stretches;", Cond.methodLink RX11 332 yX9_findPair, Cond.instanceMethod yX9_findPair, Cond.selects RX9 yX9_findPair yX9_findPair, Cond.initialized RX9, Cond.fieldLink RX11 341 "WarpDesk$Stretches" "pairGreater" "I", Cond.fieldLink RX11 338 "WarpDesk$Stretches" "pairLesser" "I", Cond.fieldLink RX11 335 "WarpDesk$Stretches" "pairDistance" "I"]
def wz_k301_X11_pair : List Cond := .code yX11_pair cX11_pair 3 (some .int) :: (wo_k301_X11_pair ++ (wsX90 ++ (wsX110 ++ (wz_k212_X11_isStretch ++ (wz_k302_X9_findPair ++ ([] : List Cond))))))
theorem zg_k301_X11_pair : ∀ w ∈ wz_k301_X11_pair, goodWord w = true := zg_cons rfl (zg_app (by decide +kernel) (zg_app zgU_wsX90 (zg_app zgU_wsX110 (zg_app zg_k212_X11_isStretch (zg_app zg_k302_X9_findPair zg_nil)))))
theorem zi_k301_X11_pair : ∀ w ∈ wz_k301_X11_pair, w ∈ lw_tbl := zi_cons zw_1288 (zi_app (zi_cons zw_926 (zi_cons zw_927 (zi_cons zw_103 (zi_cons zw_496 (zi_cons zw_1289 (zi_cons zw_1290 (zi_cons zw_1291 (zi_cons zw_114 (zi_cons zw_457 (zi_cons zw_455 (zi_cons zw_459 zi_nil))))))))))) (zi_app inX9 (zi_app inX11 (zi_app zi_k212_X11_isStretch (zi_app zi_k302_X9_findPair zi_nil)))))
set_option maxHeartbeats 4000000 in
set_option maxRecDepth 100000 in
theorem k301_X11_pair (l : Launch) (D : va_G) (zt : Nat × Nat × Nat × (Nat → Nat) × (Nat → Nat)) (q : Nat → Nat) (d : Nat → ClassId) (I : Nat → Int32) (A : Nat → Nat → Int32) (z1 : Int32) (z2 : Int32) (hIv : IvX I A) : GM l D zt (tyX d) yX11_pair wz_k301_X11_pair ({ frames := 6, cells := 0, slots := 0, locals := 138 } : Room) [.ref (q 0), .int z1, .int z2] (wX q d I A) (fun v _ w' => ∃ (I' : Nat → Int32) (A' : Nat → Nat → Int32), Md [28, 30, 31, 32, 33, 34, 40, 41, 42] I I' ∧ Md [21, 22, 23, 30, 31] A A' ∧ IvX I' A' ∧ ∃ y0 : Int32, v = some (.int y0) ∧ w' = wX q d I' A') 0 0 := by
  refine GM.of (cc := cX11_pair) (maxL := 3) (ret := (some .int)) (own := RX11) (lv := [(0, .ref (q 0)), (1, .int z1), (2, .int z2)]) (by decide) rfl rfl (Nat.le_of_ble_eq_true rfl) rfl (fun κ sz hk hR hN => ?_)
  have hin9 : ∀ w ∈ u_ws RX9 TX9 11, w ∈ wz_k301_X11_pair := fun w h => (List.mem_cons_of_mem _ (List.mem_append_right _ (List.mem_append_left _ h)))
  have hin11 : ∀ w ∈ u_ws RX11 TX11 10, w ∈ wz_k301_X11_pair := fun w h => (List.mem_cons_of_mem _ (List.mem_append_right _ (List.mem_append_right _ (List.mem_append_left _ h))))
  refine g_iload_n hk dX11_pair_0 rfl ?_
  refine g_callS (n := 1) hk (k212_X11_isStretch l D zt q d I A z1 hIv) (SP.same _) (fun _ h => h) (gi_S (List.mem_cons_of_mem _ (List.mem_append_left _ (List.mem_of_getElem? (i := 0) rfl))) (List.mem_cons_of_mem _ (List.mem_append_left _ (List.mem_of_getElem? (i := 1) rfl))) (List.mem_cons_of_mem _ (List.mem_append_left _ (List.mem_of_getElem? (i := 2) rfl))) (gi_sub (fun w h => (List.mem_cons_of_mem _ (List.mem_append_right _ (List.mem_append_right _ (List.mem_append_right _ (List.mem_append_left _ h)))))) zg_k212_X11_isStretch)) rfl rfl rfl (by decide +kernel) ⟨Nat.le_of_ble_eq_true rfl, Nat.le_of_ble_eq_true rfl⟩ rfl rfl (Nat.le_of_ble_eq_true rfl) ⟨Nat.le_of_ble_eq_true rfl, Nat.le_of_ble_eq_true rfl⟩ dX11_pair_1 (fun v ty' w' hp hk' => ?_)
  rcases hp with ⟨rfl, rfl⟩ | ⟨c9247, c9248, c9249, c9250, rfl, rfl⟩
  · skip
    show GW κ 3 0 0 (wX q d I A) 4 [(0, .ref (q 0)), (1, .int z1), (2, .int z2)] [.int 0]
    refine g_if_eq (tgt := 16) (a := 0) hk dX11_pair_4 (by decide) rfl (fun _ => ?_) (fun z9 => absurd (show (0 : Int) = (0 : Int) from by decide) z9)
    refine g_iconst (v := (-1)) hk dX11_pair_16 (by decide) ?_
    exact g_iret hk hR rfl ⟨I, A, (show Md [28, 30, 31, 32, 33, 34, 40, 41, 42] I I from Md.rf), (show Md [21, 22, 23, 30, 31] A A from Md.rf), hIv, (-1), rfl, rfl⟩ dX11_pair_17
  · skip
    show GW κ 3 0 0 (wX q d I A) 4 [(0, .ref (q 0)), (1, .int z1), (2, .int z2)] [.int 1]
    refine g_if_eq (tgt := 16) (a := 1) hk dX11_pair_4 (by decide) rfl (fun z9 => absurd z9 (show ¬ ((1 : Int) = (0 : Int)) from by decide)) (fun _ => ?_)
    refine g_iload_n hk dX11_pair_7 rfl ?_
    have b9252l := Int32.le_toInt z2
    have b9252h := Int32.toInt_lt z2
    refine g_if_lt (tgt := 16) (a := z2.toInt) hk dX11_pair_8 (by decide) rfl (fun c9253 => ?_) (fun c9253 => ?_)
    · skip
      refine g_iconst (v := (-1)) hk dX11_pair_16 (by decide) ?_
      exact g_iret hk hR rfl ⟨I, A, (show Md [28, 30, 31, 32, 33, 34, 40, 41, 42] I I from Md.rf), (show Md [21, 22, 23, 30, 31] A A from Md.rf), hIv, (-1), rfl, rfl⟩ dX11_pair_17
    · skip
      refine g_iload_n hk dX11_pair_11 rfl ?_
      refine g_iconst (v := 2) hk dX11_pair_12 (by decide) ?_
      refine g_icmp_le (tgt := 18) (a := z2.toInt) (b := 2) hk dX11_pair_13 (by decide) rfl rfl (fun c9254 => ?_) (fun c9254 => ?_)
      · skip
        refine g_aload_n hk dX11_pair_18 rfl ?_
        refine gX_r0_9 hk hin11 (List.mem_cons_of_mem _ (List.mem_append_left _ (List.mem_of_getElem? (i := 3) rfl))) dX11_pair_19 ?_
        refine g_iload_n hk dX11_pair_22 rfl ?_
        refine g_callV (n := 1) hk (k302_X9_findPair l D zt q d I A z1 hIv (by omega) (by omega)) (SP.same _) (fun _ h => h) (gi_V (List.mem_cons_of_mem _ (List.mem_append_left _ (List.mem_of_getElem? (i := 4) rfl))) (List.mem_cons_of_mem _ (List.mem_append_left _ (List.mem_of_getElem? (i := 5) rfl))) (List.mem_cons_of_mem _ (List.mem_append_left _ (List.mem_of_getElem? (i := 6) rfl))) (List.mem_cons_of_mem _ (List.mem_append_left _ (List.mem_of_getElem? (i := 7) rfl))) (gi_sub (fun w h => (List.mem_cons_of_mem _ (List.mem_append_right _ (List.mem_append_right _ (List.mem_append_right _ (List.mem_append_right _ (List.mem_append_left _ h))))))) zg_k302_X9_findPair)) rfl rfl rfl (by decide +kernel) ⟨Nat.le_of_ble_eq_true rfl, Nat.le_of_ble_eq_true rfl⟩ 49 rfl rfl rfl rfl (Nat.le_of_ble_eq_true rfl) ⟨Nat.le_of_ble_eq_true rfl, Nat.le_of_ble_eq_true rfl⟩ dX11_pair_23 (fun v ty' w' hp hk' => ?_)
        obtain ⟨I9408, A9408, hI9408, hA9408, hV9408, rfl, rfl⟩ := hp
        show GW κ 3 0 0 (wX q d I9408 A9408) 26 [(0, .ref (q 0)), (1, .int z1), (2, .int z2)] []
        refine g_iload_n hk dX11_pair_26 rfl ?_
        refine g_iconst (v := 2) hk dX11_pair_27 (by decide) ?_
        refine g_icmp_ne (tgt := 39) (a := z2.toInt) (b := 2) hk dX11_pair_28 (by decide) rfl rfl (fun c9409 => ?_) (fun c9409 => ?_)
        · skip
          refine g_iload_n hk dX11_pair_39 rfl ?_
          refine g_if_ne (tgt := 53) (a := z2.toInt) hk dX11_pair_40 (by decide) rfl (fun c9410 => ?_) (fun c9410 => ?_)
          · skip
            refine g_aload_n hk dX11_pair_53 rfl ?_
            refine gX_r0_9 hk hin11 (List.mem_cons_of_mem _ (List.mem_append_left _ (List.mem_of_getElem? (i := 3) rfl))) dX11_pair_54 ?_
            refine gX_i41 (v := (I9408 41)) hk hin9 (List.mem_cons_of_mem _ (List.mem_append_left _ (List.mem_of_getElem? (i := 8) rfl))) dX11_pair_57 rfl ?_
            have b9411l := Int32.le_toInt (I9408 41)
            have b9411h := Int32.toInt_lt (I9408 41)
            exact g_iret hk hR rfl ⟨I9408, A9408, (show Md [28, 30, 31, 32, 33, 34, 40, 41, 42] I I9408 from (Md.tr Md.rf hI9408 rfl)), (show Md [21, 22, 23, 30, 31] A A9408 from (Md.tr Md.rf hA9408 rfl)), hV9408, (I9408 41), rfl, rfl⟩ dX11_pair_60
          · skip
            refine g_aload_n hk dX11_pair_43 rfl ?_
            refine gX_r0_9 hk hin11 (List.mem_cons_of_mem _ (List.mem_append_left _ (List.mem_of_getElem? (i := 3) rfl))) dX11_pair_44 ?_
            refine gX_i40 (v := (I9408 40)) hk hin9 (List.mem_cons_of_mem _ (List.mem_append_left _ (List.mem_of_getElem? (i := 9) rfl))) dX11_pair_47 rfl ?_
            refine g_goto (tgt := 60) hk dX11_pair_50 (by decide) ?_
            have b9412l := Int32.le_toInt (I9408 40)
            have b9412h := Int32.toInt_lt (I9408 40)
            exact g_iret hk hR rfl ⟨I9408, A9408, (show Md [28, 30, 31, 32, 33, 34, 40, 41, 42] I I9408 from (Md.tr Md.rf hI9408 rfl)), (show Md [21, 22, 23, 30, 31] A A9408 from (Md.tr Md.rf hA9408 rfl)), hV9408, (I9408 40), rfl, rfl⟩ dX11_pair_60
        · skip
          refine g_aload_n hk dX11_pair_31 rfl ?_
          refine gX_r0_9 hk hin11 (List.mem_cons_of_mem _ (List.mem_append_left _ (List.mem_of_getElem? (i := 3) rfl))) dX11_pair_32 ?_
          refine gX_i42 (v := (I9408 42)) hk hin9 (List.mem_cons_of_mem _ (List.mem_append_left _ (List.mem_of_getElem? (i := 10) rfl))) dX11_pair_35 rfl ?_
          have b9413l := Int32.le_toInt (I9408 42)
          have b9413h := Int32.toInt_lt (I9408 42)
          exact g_iret hk hR rfl ⟨I9408, A9408, (show Md [28, 30, 31, 32, 33, 34, 40, 41, 42] I I9408 from (Md.tr Md.rf hI9408 rfl)), (show Md [21, 22, 23, 30, 31] A A9408 from (Md.tr Md.rf hA9408 rfl)), hV9408, (I9408 42), rfl, rfl⟩ dX11_pair_38
      · skip
        refine g_iconst (v := (-1)) hk dX11_pair_16 (by decide) ?_
        exact g_iret hk hR rfl ⟨I, A, (show Md [28, 30, 31, 32, 33, 34, 40, 41, 42] I I from Md.rf), (show Md [21, 22, 23, 30, 31] A A from Md.rf), hIv, (-1), rfl, rfl⟩ dX11_pair_17
def wo_k305_X9_findOdd : List Cond := [Cond.fieldLink RX9 98 "WarpDesk$Stretches" "oddWindow" "I", Cond.fieldLink RX9 101 "WarpDesk$Stretches" "oddDistance" "I", Cond.methodLink RX9 50 yX9_bringAll, Cond.instanceMethod yX9_bringAll, Cond.selects RX9 yX9_bringAll yX9_bringAll, Cond.initialized RX9, Cond.fieldLink RX9 15 "WarpDesk$Stretches" "isThere" "[Z", Cond.methodLink RX9 54 yX9_findNearest, Cond.instanceMethod yX9_findNearest, Cond.selects RX9 yX9_findNearest yX9_findNearest, Cond.fieldLink RX9 58 "WarpDesk$Stretches" "nearest" "I", Cond.fieldLink RX9 62 "WarpDesk$Stretches" "nearestDistance" "I"]
def wz_k305_X9_findOdd : List Cond := .code yX9_findOdd cX9_findOdd 3 none :: (wo_k305_X9_findOdd ++ (wsX90 ++ (wz_k293_X9_bringAll ++ (wz_k296_X9_findNearest ++ ([] : List Cond)))))
theorem zg_k305_X9_findOdd : ∀ w ∈ wz_k305_X9_findOdd, goodWord w = true := zg_cons rfl (zg_app (by decide +kernel) (zg_app zgU_wsX90 (zg_app zg_k293_X9_bringAll (zg_app zg_k296_X9_findNearest zg_nil))))
theorem zi_k305_X9_findOdd : ∀ w ∈ wz_k305_X9_findOdd, w ∈ lw_tbl := zi_cons zw_1304 (zi_app (zi_cons zw_460 (zi_cons zw_462 (zi_cons zw_1255 (zi_cons zw_1257 (zi_cons zw_39 (zi_cons zw_114 (zi_cons zw_449 (zi_cons zw_1269 (zi_cons zw_1271 (zi_cons zw_41 (zi_cons zw_450 (zi_cons zw_452 zi_nil)))))))))))) (zi_app inX9 (zi_app zi_k293_X9_bringAll (zi_app zi_k296_X9_findNearest zi_nil))))
set_option maxHeartbeats 4000000 in
set_option maxRecDepth 100000 in
theorem k305_X9_findOdd (l : Launch) (D : va_G) (zt : Nat × Nat × Nat × (Nat → Nat) × (Nat → Nat)) (q : Nat → Nat) (d : Nat → ClassId) (I : Nat → Int32) (A : Nat → Nat → Int32) (z1 : Int32) (hIv : IvX I A) : GM l D zt (tyX d) yX9_findOdd wz_k305_X9_findOdd ({ frames := 5, cells := 0, slots := 0, locals := 118 } : Room) [.ref (q 49), .int z1] (wX q d I A) (fun v _ w' => ∃ (I' : Nat → Int32) (A' : Nat → Nat → Int32), Md [28, 30, 31, 32, 33, 34, 38, 39, 43, 44] I I' ∧ Md [21, 22, 23, 30, 31] A A' ∧ IvX I' A' ∧ v = none ∧ w' = wX q d I' A') 0 0 := by
  refine GM.of (cc := cX9_findOdd) (maxL := 3) (ret := none) (own := RX9) (lv := [(0, .ref (q 49)), (1, .int z1)]) (by decide) rfl rfl (Nat.le_of_ble_eq_true rfl) rfl (fun κ sz hk hR hN => ?_)
  have hin9 : ∀ w ∈ u_ws RX9 TX9 11, w ∈ wz_k305_X9_findOdd := fun w h => (List.mem_cons_of_mem _ (List.mem_append_right _ (List.mem_append_left _ h)))
  refine g_aload_n hk dX9_findOdd_0 rfl ?_
  refine g_bipush (v := (-2)) hk dX9_findOdd_1 (by decide) ?_
  refine pX_i43 hk hin9 (List.mem_cons_of_mem _ (List.mem_append_left _ (List.mem_of_getElem? (i := 0) rfl))) dX9_findOdd_3 ?_
  refine g_aload_n hk dX9_findOdd_6 rfl ?_
  refine g_bipush (v := (-2)) hk dX9_findOdd_7 (by decide) ?_
  refine pX_i44 hk hin9 (List.mem_cons_of_mem _ (List.mem_append_left _ (List.mem_of_getElem? (i := 1) rfl))) dX9_findOdd_9 ?_
  refine g_aload_n hk dX9_findOdd_12 rfl ?_
  refine g_iload_n hk dX9_findOdd_13 rfl ?_
  refine g_callV (n := 1) hk (k293_X9_bringAll l D zt q d (upd (upd I 43 (-2)) 44 (-2)) A z1 ⟨(IvX_f0 (I := I) (A := A) hIv), (IvX_f18 (I := I) (A := A) hIv), (IvX_f30 (I := I) (A := A) hIv), (IvX_f31 (I := I) (A := A) hIv), (IvX_a4 (I := I) (A := A) hIv), (IvX_a9 (I := I) (A := A) hIv), trivial⟩) (SP.same _) (fun _ h => h) (gi_V (List.mem_cons_of_mem _ (List.mem_append_left _ (List.mem_of_getElem? (i := 2) rfl))) (List.mem_cons_of_mem _ (List.mem_append_left _ (List.mem_of_getElem? (i := 3) rfl))) (List.mem_cons_of_mem _ (List.mem_append_left _ (List.mem_of_getElem? (i := 4) rfl))) (List.mem_cons_of_mem _ (List.mem_append_left _ (List.mem_of_getElem? (i := 5) rfl))) (gi_sub (fun w h => (List.mem_cons_of_mem _ (List.mem_append_right _ (List.mem_append_right _ (List.mem_append_left _ h))))) zg_k293_X9_bringAll)) rfl rfl rfl (by decide +kernel) ⟨Nat.le_of_ble_eq_true rfl, Nat.le_of_ble_eq_true rfl⟩ 49 rfl rfl rfl rfl (Nat.le_of_ble_eq_true rfl) ⟨Nat.le_of_ble_eq_true rfl, Nat.le_of_ble_eq_true rfl⟩ dX9_findOdd_14 (fun v ty' w' hp hk' => ?_)
  obtain ⟨I9424, A9424, hI9424, hA9424, hV9424, rfl, rfl⟩ := hp
  show GW κ 3 0 0 (wX q d I9424 A9424) 17 [(0, .ref (q 49)), (1, .int z1)] []
  refine g_iconst (v := 0) hk dX9_findOdd_17 (by decide) ?_
  refine g_istore_n (lv' := [(2, .int 0), (0, .ref (q 49)), (1, .int z1)]) hk dX9_findOdd_18 (by decide) rfl ?_
  have lp9483 : ∀ (n9484 : Nat) (x9425 : Int32) (I9428 : Nat → Int32) (A9428 : Nat → Nat → Int32), (Md [33, 34, 38, 39, 43, 44] I9424 I9428) → (Md [21, 22, 23] A9424 A9428) → (IvX I9428 A9428) → (0 ≤ x9425.toInt) → (x9425.toInt ≤ 160) → (161 - x9425.toInt < (n9484 : Int)) → (0 < n9484) → GW κ 3 0 0 (wX q d I9428 A9428) 19 [(2, .int x9425), (0, .ref (q 49)), (1, .int z1)] [] := by
    intro n9484
    induction n9484 with
    | zero =>
      intro x9425 I9428 A9428 hI9428 hA9428 hV9428 h9481 h9482 m9485 m9485z
      exact absurd m9485z (Nat.lt_irrefl 0)
    | succ n9484 ih9486 =>
      intro x9425 I9428 A9428 hI9428 hA9428 hV9428 h9481 h9482 m9485 m9485z
      refine g_iload_n hk dX9_findOdd_19 rfl ?_
      refine g_sipush (v := 160) hk dX9_findOdd_20 (by decide) ?_
      refine g_icmp_ge (tgt := 85) (a := x9425.toInt) (b := 160) hk dX9_findOdd_23 (by decide) rfl rfl (fun c9487 => ?_) (fun c9487 => ?_)
      · skip
        exact g_vret hk hR ⟨I9428, A9428, (show Md [28, 30, 31, 32, 33, 34, 38, 39, 43, 44] I I9428 from (Md.tr (Md.tr (Md.up (Md.up Md.rf rfl) rfl) hI9424 rfl) hI9428 rfl)), (show Md [21, 22, 23, 30, 31] A A9428 from (Md.tr (Md.tr Md.rf hA9424 rfl) hA9428 rfl)), hV9428, rfl, rfl⟩ dX9_findOdd_85
      · skip
        refine g_aload_n hk dX9_findOdd_26 rfl ?_
        refine gX_r49_3 hk hin9 (List.mem_cons_of_mem _ (List.mem_append_left _ (List.mem_of_getElem? (i := 6) rfl))) dX9_findOdd_27 ?_
        refine g_iload_n hk dX9_findOdd_30 rfl ?_
        refine lX_31 (v := (A9424 31 x9425.toNatClampNeg)) hk (vp_in_iff.mpr ⟨by omega, by omega⟩) (congrFun (hA9428 31 rfl) _) dX9_findOdd_31 ?_
        have b9488l := Int32.le_toInt (A9424 31 x9425.toNatClampNeg)
        have b9488h := Int32.toInt_lt (A9424 31 x9425.toNatClampNeg)
        refine g_if_ne (tgt := 38) (a := (A9424 31 x9425.toNatClampNeg).toInt) hk dX9_findOdd_32 (by decide) rfl (fun c9489 => ?_) (fun c9489 => ?_)
        · skip
          refine g_aload_n hk dX9_findOdd_38 rfl ?_
          refine g_iload_n hk dX9_findOdd_39 rfl ?_
          refine g_iload_n hk dX9_findOdd_40 rfl ?_
          refine g_aload_n hk dX9_findOdd_41 rfl ?_
          refine gX_i44 (v := (I9428 44)) hk hin9 (List.mem_cons_of_mem _ (List.mem_append_left _ (List.mem_of_getElem? (i := 1) rfl))) dX9_findOdd_42 rfl ?_
          refine g_callV (n := 3) hk (k296_X9_findNearest l D zt q d I9428 A9428 x9425 z1 (I9428 44) hV9428) (SP.same _) (fun _ h => h) (gi_V (List.mem_cons_of_mem _ (List.mem_append_left _ (List.mem_of_getElem? (i := 7) rfl))) (List.mem_cons_of_mem _ (List.mem_append_left _ (List.mem_of_getElem? (i := 8) rfl))) (List.mem_cons_of_mem _ (List.mem_append_left _ (List.mem_of_getElem? (i := 9) rfl))) (List.mem_cons_of_mem _ (List.mem_append_left _ (List.mem_of_getElem? (i := 5) rfl))) (gi_sub (fun w h => (List.mem_cons_of_mem _ (List.mem_append_right _ (List.mem_append_right _ (List.mem_append_right _ (List.mem_append_left _ h)))))) zg_k296_X9_findNearest)) rfl rfl rfl (by decide +kernel) ⟨Nat.le_of_ble_eq_true rfl, Nat.le_of_ble_eq_true rfl⟩ 49 rfl rfl rfl rfl (Nat.le_of_ble_eq_true rfl) ⟨Nat.le_of_ble_eq_true rfl, Nat.le_of_ble_eq_true rfl⟩ dX9_findOdd_45 (fun v ty' w' hp hk' => ?_)
          obtain ⟨I9491, A9491, hI9491, hA9491, hV9491, rfl, rfl⟩ := hp
          show GW κ 3 0 0 (wX q d I9491 A9491) 48 [(2, .int x9425), (0, .ref (q 49)), (1, .int z1)] []
          refine g_aload_n hk dX9_findOdd_48 rfl ?_
          refine gX_i38 (v := (I9491 38)) hk hin9 (List.mem_cons_of_mem _ (List.mem_append_left _ (List.mem_of_getElem? (i := 10) rfl))) dX9_findOdd_49 rfl ?_
          have b9492l := Int32.le_toInt (I9491 38)
          have b9492h := Int32.toInt_lt (I9491 38)
          refine g_if_lt (tgt := 79) (a := (I9491 38).toInt) hk dX9_findOdd_52 (by decide) rfl (fun c9493 => ?_) (fun c9493 => ?_)
          · skip
            obtain ⟨y9494, ey9494⟩ : ∃ y : Int32, y = x9425 + Int32.ofInt 1 := ⟨_, rfl⟩
            have hy9494 : y9494.toInt = x9425.toInt + 1 := i32_add ey9494 rfl (by decide) (by omega) (by omega)
            refine g_iinc (v := y9494) (lv' := [(2, .int y9494), (0, .ref (q 49)), (1, .int z1)]) hk 0 dX9_findOdd_79 rfl ey9494.symm (by decide) rfl ?_
            refine g_goto (tgt := 19) hk dX9_findOdd_82 (by decide) ?_
            exact g_lv (List.forall_mem_cons.mpr ⟨List.mem_of_getElem? (i := 0) rfl, (List.forall_mem_cons.mpr ⟨List.mem_of_getElem? (i := 1) rfl, (List.forall_mem_cons.mpr ⟨List.mem_of_getElem? (i := 2) rfl, (fun _ h => absurd h List.not_mem_nil)⟩)⟩)⟩) (ih9486 y9494 I9491 A9491 (show Md [33, 34, 38, 39, 43, 44] I9424 I9491 from Md.tr hI9428 (show Md [33, 34, 38, 39, 43, 44] I9428 I9491 from (Md.tr Md.rf hI9491 rfl)) rfl) (show Md [21, 22, 23] A9424 A9491 from Md.tr hA9428 (show Md [21, 22, 23] A9428 A9491 from (Md.tr Md.rf hA9491 rfl)) rfl) hV9491 (by omega) (by omega) (by omega) (by omega))
          · skip
            refine g_aload_n hk dX9_findOdd_55 rfl ?_
            refine gX_i39 (v := (I9491 39)) hk hin9 (List.mem_cons_of_mem _ (List.mem_append_left _ (List.mem_of_getElem? (i := 11) rfl))) dX9_findOdd_56 rfl ?_
            refine g_aload_n hk dX9_findOdd_59 rfl ?_
            refine gX_i44 (v := (I9428 44)) hk hin9 (List.mem_cons_of_mem _ (List.mem_append_left _ (List.mem_of_getElem? (i := 1) rfl))) dX9_findOdd_60 (hI9491 44 rfl) ?_
            have b9495l := Int32.le_toInt (I9491 39)
            have b9495h := Int32.toInt_lt (I9491 39)
            have b9496l := Int32.le_toInt (I9428 44)
            have b9496h := Int32.toInt_lt (I9428 44)
            refine g_icmp_le (tgt := 79) (a := (I9491 39).toInt) (b := (I9428 44).toInt) hk dX9_findOdd_63 (by decide) rfl rfl (fun c9497 => ?_) (fun c9497 => ?_)
            · skip
              obtain ⟨y9498, ey9498⟩ : ∃ y : Int32, y = x9425 + Int32.ofInt 1 := ⟨_, rfl⟩
              have hy9498 : y9498.toInt = x9425.toInt + 1 := i32_add ey9498 rfl (by decide) (by omega) (by omega)
              refine g_iinc (v := y9498) (lv' := [(2, .int y9498), (0, .ref (q 49)), (1, .int z1)]) hk 0 dX9_findOdd_79 rfl ey9498.symm (by decide) rfl ?_
              refine g_goto (tgt := 19) hk dX9_findOdd_82 (by decide) ?_
              exact g_lv (List.forall_mem_cons.mpr ⟨List.mem_of_getElem? (i := 0) rfl, (List.forall_mem_cons.mpr ⟨List.mem_of_getElem? (i := 1) rfl, (List.forall_mem_cons.mpr ⟨List.mem_of_getElem? (i := 2) rfl, (fun _ h => absurd h List.not_mem_nil)⟩)⟩)⟩) (ih9486 y9498 I9491 A9491 (show Md [33, 34, 38, 39, 43, 44] I9424 I9491 from Md.tr hI9428 (show Md [33, 34, 38, 39, 43, 44] I9428 I9491 from (Md.tr Md.rf hI9491 rfl)) rfl) (show Md [21, 22, 23] A9424 A9491 from Md.tr hA9428 (show Md [21, 22, 23] A9428 A9491 from (Md.tr Md.rf hA9491 rfl)) rfl) hV9491 (by omega) (by omega) (by omega) (by omega))
            · skip
              refine g_aload_n hk dX9_findOdd_66 rfl ?_
              refine g_iload_n hk dX9_findOdd_67 rfl ?_
              refine pX_i43 hk hin9 (List.mem_cons_of_mem _ (List.mem_append_left _ (List.mem_of_getElem? (i := 0) rfl))) dX9_findOdd_68 ?_
              refine g_aload_n hk dX9_findOdd_71 rfl ?_
              refine g_aload_n hk dX9_findOdd_72 rfl ?_
              refine gX_i39 (v := (I9491 39)) hk hin9 (List.mem_cons_of_mem _ (List.mem_append_left _ (List.mem_of_getElem? (i := 11) rfl))) dX9_findOdd_73 rfl ?_
              refine pX_i44 hk hin9 (List.mem_cons_of_mem _ (List.mem_append_left _ (List.mem_of_getElem? (i := 1) rfl))) dX9_findOdd_76 ?_
              obtain ⟨y9499, ey9499⟩ : ∃ y : Int32, y = x9425 + Int32.ofInt 1 := ⟨_, rfl⟩
              have hy9499 : y9499.toInt = x9425.toInt + 1 := i32_add ey9499 rfl (by decide) (by omega) (by omega)
              refine g_iinc (v := y9499) (lv' := [(2, .int y9499), (0, .ref (q 49)), (1, .int z1)]) hk 0 dX9_findOdd_79 rfl ey9499.symm (by decide) rfl ?_
              refine g_goto (tgt := 19) hk dX9_findOdd_82 (by decide) ?_
              exact g_lv (List.forall_mem_cons.mpr ⟨List.mem_of_getElem? (i := 0) rfl, (List.forall_mem_cons.mpr ⟨List.mem_of_getElem? (i := 1) rfl, (List.forall_mem_cons.mpr ⟨List.mem_of_getElem? (i := 2) rfl, (fun _ h => absurd h List.not_mem_nil)⟩)⟩)⟩) (ih9486 y9499 (upd (upd I9491 43 x9425) 44 (I9491 39)) A9491 (show Md [33, 34, 38, 39, 43, 44] I9424 (upd (upd I9491 43 x9425) 44 (I9491 39)) from Md.tr hI9428 (show Md [33, 34, 38, 39, 43, 44] I9428 (upd (upd I9491 43 x9425) 44 (I9491 39)) from (Md.up (Md.up (Md.tr Md.rf hI9491 rfl) rfl) rfl)) rfl) (show Md [21, 22, 23] A9424 A9491 from Md.tr hA9428 (show Md [21, 22, 23] A9428 A9491 from (Md.tr Md.rf hA9491 rfl)) rfl) ⟨(IvX_f0 (I := I9491) (A := A9491) hV9491), (IvX_f18 (I := I9491) (A := A9491) hV9491), (IvX_f30 (I := I9491) (A := A9491) hV9491), (IvX_f31 (I := I9491) (A := A9491) hV9491), (IvX_a4 (I := I9491) (A := A9491) hV9491), (IvX_a9 (I := I9491) (A := A9491) hV9491), trivial⟩ (by omega) (by omega) (by omega) (by omega))
        · skip
          refine g_goto (tgt := 79) hk dX9_findOdd_35 (by decide) ?_
          obtain ⟨y9500, ey9500⟩ : ∃ y : Int32, y = x9425 + Int32.ofInt 1 := ⟨_, rfl⟩
          have hy9500 : y9500.toInt = x9425.toInt + 1 := i32_add ey9500 rfl (by decide) (by omega) (by omega)
          refine g_iinc (v := y9500) (lv' := [(2, .int y9500), (0, .ref (q 49)), (1, .int z1)]) hk 0 dX9_findOdd_79 rfl ey9500.symm (by decide) rfl ?_
          refine g_goto (tgt := 19) hk dX9_findOdd_82 (by decide) ?_
          exact g_lv (List.forall_mem_cons.mpr ⟨List.mem_of_getElem? (i := 0) rfl, (List.forall_mem_cons.mpr ⟨List.mem_of_getElem? (i := 1) rfl, (List.forall_mem_cons.mpr ⟨List.mem_of_getElem? (i := 2) rfl, (fun _ h => absurd h List.not_mem_nil)⟩)⟩)⟩) (ih9486 y9500 I9428 A9428 (show Md [33, 34, 38, 39, 43, 44] I9424 I9428 from Md.tr hI9428 (show Md [33, 34, 38, 39, 43, 44] I9428 I9428 from Md.rf) rfl) (show Md [21, 22, 23] A9424 A9428 from Md.tr hA9428 (show Md [21, 22, 23] A9428 A9428 from Md.rf) rfl) hV9428 (by omega) (by omega) (by omega) (by omega))
  have k9502 : (0 : Int32).toInt = 0 := rfl
  obtain ⟨n9501, n9501a, n9501b⟩ : ∃ n : Nat, 161 - 0 < (n : Int) ∧ 0 < n := ⟨((161 - 0 : Int)).toNat + 1, by omega, by omega⟩
  exact lp9483 n9501 0 I9424 A9424 Md.rf Md.rf hV9424 (by omega) (by omega) n9501a n9501b
