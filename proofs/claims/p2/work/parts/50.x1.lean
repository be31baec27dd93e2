theorem dX10_byteAt_12 : decode cX10_byteAt 12 = .ok (.iload_n 1, 1) := by decide +kernel
theorem dX10_byteAt_13 : decode cX10_byteAt 13 = .ok (.aload_n 0, 1) := by decide +kernel
theorem dX10_byteAt_14 : decode cX10_byteAt 14 = .ok (.getfield 9, 3) := by decide +kernel
theorem dX10_byteAt_17 : decode cX10_byteAt 17 = .ok (.arraylength, 1) := by decide +kernel
theorem dX10_byteAt_18 : decode cX10_byteAt 18 = .ok (.if_icmp .ge 12, 3) := by decide +kernel
theorem dX10_byteAt_21 : decode cX10_byteAt 21 = .ok (.aload_n 0, 1) := by decide +kernel
theorem dX10_byteAt_22 : decode cX10_byteAt 22 = .ok (.getfield 9, 3) := by decide +kernel
theorem dX10_byteAt_25 : decode cX10_byteAt 25 = .ok (.iload_n 1, 1) := by decide +kernel
theorem dX10_byteAt_26 : decode cX10_byteAt 26 = .ok (.iaload, 1) := by decide +kernel
theorem dX10_byteAt_27 : decode cX10_byteAt 27 = .ok (.goto 4, 3) := by decide +kernel
theorem dX10_lengthAtHand_0 : decode cX10_lengthAtHand 0 = .ok (.aload_n 0, 1) := by decide +kernel
theorem dX10_lengthAtHand_1 : decode cX10_lengthAtHand 1 = .ok (.getfield 19, 3) := by decide +kernel
theorem dX10_lengthAtHand_4 : decode cX10_lengthAtHand 4 = .ok (.aload_n 0, 1) := by decide +kernel
theorem dX10_lengthAtHand_5 : decode cX10_lengthAtHand 5 = .ok (.getfield 32, 3) := by decide +kernel
theorem dX10_lengthAtHand_8 : decode cX10_lengthAtHand 8 = .ok (.isub, 1) := by decide +kernel
theorem dX10_lengthAtHand_9 : decode cX10_lengthAtHand 9 = .ok (.ireturn, 1) := by decide +kernel
theorem dX3_kindOfStep_0 : decode cX3_kindOfStep 0 = .ok (.aload_n 0, 1) := by decide +kernel
theorem dX3_kindOfStep_1 : decode cX3_kindOfStep 1 = .ok (.getfield 9, 3) := by decide +kernel
theorem dX3_kindOfStep_11 : decode cX3_kindOfStep 11 = .ok (.ireturn, 1) := by decide +kernel
theorem dX3_kindOfStep_4 : decode cX3_kindOfStep 4 = .ok (.aload_n 0, 1) := by decide +kernel
theorem dX3_kindOfStep_5 : decode cX3_kindOfStep 5 = .ok (.getfield 23, 3) := by decide +kernel
theorem dX3_kindOfStep_8 : decode cX3_kindOfStep 8 = .ok (.invokestatic 32, 3) := by decide +kernel
theorem dX3_valueIn_0 : decode cX3_valueIn 0 = .ok (.iload_n 1, 1) := by decide +kernel
theorem dX3_valueIn_1 : decode cX3_valueIn 1 = .ok (.ifCond .lt 15, 3) := by decide +kernel
theorem dX3_valueIn_10 : decode cX3_valueIn 10 = .ok (.aload_n 0, 1) := by decide +kernel
theorem dX3_valueIn_11 : decode cX3_valueIn 11 = .ok (.iload_n 1, 1) := by decide +kernel
theorem dX3_valueIn_12 : decode cX3_valueIn 12 = .ok (.iaload, 1) := by decide +kernel
theorem dX3_valueIn_13 : decode cX3_valueIn 13 = .ok (.goto 4, 3) := by decide +kernel
theorem dX3_valueIn_16 : decode cX3_valueIn 16 = .ok (.iconst 0, 1) := by decide +kernel
theorem dX3_valueIn_17 : decode cX3_valueIn 17 = .ok (.ireturn, 1) := by decide +kernel
theorem dX3_valueIn_4 : decode cX3_valueIn 4 = .ok (.iload_n 1, 1) := by decide +kernel
theorem dX3_valueIn_5 : decode cX3_valueIn 5 = .ok (.aload_n 0, 1) := by decide +kernel
theorem dX3_valueIn_6 : decode cX3_valueIn 6 = .ok (.arraylength, 1) := by decide +kernel
theorem dX3_valueIn_7 : decode cX3_valueIn 7 = .ok (.if_icmp .ge 9, 3) := by decide +kernel
theorem dX4_has_12 : decode cX4_has 12 = .ok (.iload_n 1, 1) := by decide +kernel
theorem dX4_has_13 : decode cX4_has 13 = .ok (.iconst 5, 1) := by decide +kernel
theorem dX4_has_14 : decode cX4_has 14 = .ok (.if_icmp .ge 7, 3) := by decide +kernel
theorem dX4_has_17 : decode cX4_has 17 = .ok (.iconst 1, 1) := by decide +kernel
theorem dX4_has_18 : decode cX4_has 18 = .ok (.goto 4, 3) := by decide +kernel
theorem dX6_hasReading_0 : decode cX6_hasReading 0 = .ok (.aload_n 0, 1) := by decide +kernel
theorem dX6_hasReading_1 : decode cX6_hasReading 1 = .ok (.iload_n 1, 1) := by decide +kernel
theorem dX6_hasReading_11 : decode cX6_hasReading 11 = .ok (.iconst 1, 1) := by decide +kernel
theorem dX6_hasReading_12 : decode cX6_hasReading 12 = .ok (.goto 4, 3) := by decide +kernel
theorem dX6_hasReading_15 : decode cX6_hasReading 15 = .ok (.iconst 0, 1) := by decide +kernel
theorem dX6_hasReading_16 : decode cX6_hasReading 16 = .ok (.ireturn, 1) := by decide +kernel
theorem dX6_hasReading_2 : decode cX6_hasReading 2 = .ok (.invokevirtual 33, 3) := by decide +kernel
theorem dX6_hasReading_5 : decode cX6_hasReading 5 = .ok (.sipush (-1000), 3) := by decide +kernel
theorem dX6_hasReading_8 : decode cX6_hasReading 8 = .ok (.if_icmp .eq 7, 3) := by decide +kernel
theorem dX6_valueAt_12 : decode cX6_valueAt 12 = .ok (.aload_n 0, 1) := by decide +kernel
theorem dX6_valueAt_13 : decode cX6_valueAt 13 = .ok (.getfield 11, 3) := by decide +kernel
theorem dX6_valueAt_16 : decode cX6_valueAt 16 = .ok (.aload_n 0, 1) := by decide +kernel
theorem dX6_valueAt_17 : decode cX6_valueAt 17 = .ok (.getfield 15, 3) := by decide +kernel
theorem dX6_valueAt_20 : decode cX6_valueAt 20 = .ok (.iload_n 1, 1) := by decide +kernel
theorem dX6_valueAt_21 : decode cX6_valueAt 21 = .ok (.iadd, 1) := by decide +kernel
theorem dX6_valueAt_22 : decode cX6_valueAt 22 = .ok (.sipush 255, 3) := by decide +kernel
theorem dX6_valueAt_25 : decode cX6_valueAt 25 = .ok (.iand, 1) := by decide +kernel
theorem dX6_valueAt_26 : decode cX6_valueAt 26 = .ok (.iaload, 1) := by decide +kernel
theorem dX6_valueAt_27 : decode cX6_valueAt 27 = .ok (.goto 6, 3) := by decide +kernel
theorem dX8_valueAt_0 : decode cX8_valueAt 0 = .ok (.iload_n 1, 1) := by decide +kernel
theorem dX8_valueAt_1 : decode cX8_valueAt 1 = .ok (.ifCond .lt 29, 3) := by decide +kernel
theorem dX8_valueAt_12 : decode cX8_valueAt 12 = .ok (.iload_n 1, 1) := by decide +kernel
theorem dX8_valueAt_13 : decode cX8_valueAt 13 = .ok (.aload_n 0, 1) := by decide +kernel
theorem dX8_valueAt_14 : decode cX8_valueAt 14 = .ok (.getfield 9, 3) := by decide +kernel
theorem dX8_valueAt_17 : decode cX8_valueAt 17 = .ok (.arraylength, 1) := by decide +kernel
theorem dX8_valueAt_18 : decode cX8_valueAt 18 = .ok (.if_icmp .ge 12, 3) := by decide +kernel
theorem dX8_valueAt_21 : decode cX8_valueAt 21 = .ok (.aload_n 0, 1) := by decide +kernel
theorem dX8_valueAt_22 : decode cX8_valueAt 22 = .ok (.getfield 9, 3) := by decide +kernel
theorem dX8_valueAt_25 : decode cX8_valueAt 25 = .ok (.iload_n 1, 1) := by decide +kernel
theorem dX8_valueAt_26 : decode cX8_valueAt 26 = .ok (.iaload, 1) := by decide +kernel
theorem dX8_valueAt_27 : decode cX8_valueAt 27 = .ok (.goto 6, 3) := by decide +kernel
theorem dX8_valueAt_30 : decode cX8_valueAt 30 = .ok (.sipush (-1000), 3) := by decide +kernel
theorem dX8_valueAt_33 : decode cX8_valueAt 33 = .ok (.ireturn, 1) := by decide +kernel
theorem dX8_valueAt_4 : decode cX8_valueAt 4 = .ok (.iload_n 1, 1) := by decide +kernel
theorem dX8_valueAt_5 : decode cX8_valueAt 5 = .ok (.aload_n 0, 1) := by decide +kernel
theorem dX8_valueAt_6 : decode cX8_valueAt 6 = .ok (.getfield 22, 3) := by decide +kernel
theorem dX8_valueAt_9 : decode cX8_valueAt 9 = .ok (.if_icmp .ge 21, 3) := by decide +kernel
theorem zw_600 : Cond.code yX10_lengthAtHand cX10_lengthAtHand 1 (some .int) ∈ lw_tbl := List.mem_of_getElem? (i := 600) (by decide +kernel)
theorem zw_776 : Cond.code yX8_valueAt cX8_valueAt 2 (some .int) ∈ lw_tbl := List.mem_of_getElem? (i := 776) (by decide +kernel)
theorem zw_842 : Cond.code yX6_hasReading cX6_hasReading 2 (some .boolean) ∈ lw_tbl := List.mem_of_getElem? (i := 842) (by decide +kernel)
theorem zw_843 : Cond.methodLink RX6 33 yX6_valueAt ∈ lw_tbl := List.mem_of_getElem? (i := 843) (by decide +kernel)
theorem zw_878 : Cond.methodLink RX3 32 yX3_valueIn ∈ lw_tbl := List.mem_of_getElem? (i := 878) (by decide +kernel)
theorem zw_879 : Cond.static yX3_valueIn ∈ lw_tbl := List.mem_of_getElem? (i := 879) (by decide +kernel)
theorem zw_880 : Cond.code yX3_valueIn cX3_valueIn 2 (some .int) ∈ lw_tbl := List.mem_of_getElem? (i := 880) (by decide +kernel)
theorem zw_884 : Cond.code yX3_kindOfStep cX3_kindOfStep 1 (some .int) ∈ lw_tbl := List.mem_of_getElem? (i := 884) (by decide +kernel)
theorem i32_mask {x y z : Int32} (k : Nat) (e : z = x &&& y) (hy : y.toBitVec.toNat = 2 ^ k - 1) (hk : k ≤ 8) : 0 ≤ z.toInt ∧ z.toInt ≤ 2 ^ k - 1 := by
  obtain ⟨j, hj, ej⟩ := pk_andE x k hy
  have h2 : 2 ^ k ≤ 2 ^ 8 := Nat.pow_le_pow_right (by decide) hk
  have h3 : (nI j).toInt = (j : Int) := nI_toInt (by omega)
  rw [e, ej, h3]
  have h4 : ((2 ^ k : Nat) : Int) = (2 : Int) ^ k := by simp
  omega
theorem i32_add {x y z : Int32} {a b : Int} (e : z = x + y) (hx : x.toInt = a) (hy : y.toInt = b) (h1 : -2147483648 ≤ a + b) (h2 : a + b < 2147483648) : z.toInt = a + b := by
  rw [e, Int32.toInt_add, hx, hy]
  exact Int.bmod_eq_of_le (by omega) (by omega)
def wo_m21_X6_valueAt : List Cond := [Cond.fieldLink RX6 19 "WarpDesk$Series" "size" "I", Cond.fieldLink RX6 11 "WarpDesk$Series" "ring" "[I", Cond.fieldLink RX6 15 "WarpDesk$Series" "first" "I"]
def wz_m21_X6_valueAt : List Cond := .code yX6_valueAt cX6_valueAt 2 (some .int) :: (wo_m21_X6_valueAt ++ (wsX60 ++ ([] : List Cond)))
theorem zg_m21_X6_valueAt : ∀ w ∈ wz_m21_X6_valueAt, goodWord w = true := zg_cons rfl (zg_app (by decide +kernel) (zg_app zgU_wsX60 zg_nil))
theorem zi_m21_X6_valueAt : ∀ w ∈ wz_m21_X6_valueAt, w ∈ lw_tbl := zi_cons zw_809 (zi_app (zi_cons zw_282 (zi_cons zw_280 (zi_cons zw_281 zi_nil))) (zi_app inX6 zi_nil))
set_option maxHeartbeats 4000000 in
set_option maxRecDepth 100000 in
theorem m21_X6_valueAt (l : Launch) (D : va_G) (zt : Nat × Nat × Nat) (A : Nat → Nat → Int32) (I : Nat → Int32) (d : Nat → ClassId) (q : Nat → Nat) (a178 : Int32) : GM l D zt (tyX d) yX6_valueAt wz_m21_X6_valueAt ({ frames := 0, cells := 0, slots := 0, locals := 0 } : Room) [.ref (q 13), .int a178] (wX q d I A) (fun v _ w' => ∃ (y184 : Int32), v = some (.int y184) ∧ w' = wX q d I A) 0 0 := by
  refine GM.of (cc := cX6_valueAt) (maxL := 2) (ret := (some .int)) (own := RX6) (lv := [(0, .ref (q 13)), (1, .int a178)]) (by decide) rfl rfl (Nat.le_of_ble_eq_true rfl) rfl (fun κ sz hk hR hN => ?_)
  have hin6 : ∀ w ∈ u_ws RX6 TX6 3, w ∈ wz_m21_X6_valueAt := fun w h => (List.mem_cons_of_mem _ (List.mem_append_right _ (List.mem_append_left _ h)))
  refine g_iload_n hk dX6_valueAt_0 rfl ?_
  refine g_if_lt (tgt := 30) (a := a178.toInt) hk dX6_valueAt_1 (by decide) rfl (fun c179 => ?_) (fun c179 => ?_)
  · skip
    refine g_sipush (v := (-1000)) hk dX6_valueAt_30 (by decide) ?_
    exact g_iret hk hR rfl ⟨(-1000), rfl, rfl⟩ dX6_valueAt_33
  · skip
    refine g_iload_n hk dX6_valueAt_4 rfl ?_
    refine g_aload_n hk dX6_valueAt_5 rfl ?_
    refine gX_i18 (v := (I 18)) hk hin6 (List.mem_cons_of_mem _ (List.mem_append_left _ (List.mem_of_getElem? (i := 0) rfl))) dX6_valueAt_6 rfl ?_
    refine g_icmp_ge (tgt := 30) (a := a178.toInt) (b := (I 18).toInt) hk dX6_valueAt_9 (by decide) rfl rfl (fun c180 => ?_) (fun c180 => ?_)
    · skip
      refine g_sipush (v := (-1000)) hk dX6_valueAt_30 (by decide) ?_
      exact g_iret hk hR rfl ⟨(-1000), rfl, rfl⟩ dX6_valueAt_33
    · skip
      refine g_aload_n hk dX6_valueAt_12 rfl ?_
      refine gX_r13_0 hk hin6 (List.mem_cons_of_mem _ (List.mem_append_left _ (List.mem_of_getElem? (i := 1) rfl))) dX6_valueAt_13 ?_
      refine g_aload_n hk dX6_valueAt_16 rfl ?_
      refine gX_i17 (v := (I 17)) hk hin6 (List.mem_cons_of_mem _ (List.mem_append_left _ (List.mem_of_getElem? (i := 2) rfl))) dX6_valueAt_17 rfl ?_
      refine g_iload_n hk dX6_valueAt_20 rfl ?_
      refine g_iadd hk dX6_valueAt_21 ?_
      refine g_topi (fun y181 ey181 => ?_)
      refine g_sipush (v := 255) hk dX6_valueAt_22 (by decide) ?_
      refine g_iand hk dX6_valueAt_25 ?_
      refine g_topi (fun y182 ey182 => ?_)
      have hy182 : 0 ≤ y182.toInt ∧ y182.toInt ≤ 255 := i32_mask 8 ey182 (by decide) (by decide)
      refine lX_7 hk (vp_in_iff.mpr ⟨by omega, by omega⟩) rfl dX6_valueAt_26 ?_
      refine g_topi (fun y183 ey183 => ?_)
      refine g_goto (tgt := 33) hk dX6_valueAt_27 (by decide) ?_
      exact g_iret hk hR rfl ⟨y183, rfl, rfl⟩ dX6_valueAt_33
def wo_m22_X6_hasReading : List Cond := [Cond.methodLink RX6 33 yX6_valueAt, Cond.instanceMethod yX6_valueAt, Cond.selects RX6 yX6_valueAt yX6_valueAt, Cond.initialized RX6]
def wz_m22_X6_hasReading : List Cond := .code yX6_hasReading cX6_hasReading 2 (some .boolean) :: (wo_m22_X6_hasReading ++ (wz_m21_X6_valueAt ++ ([] : List Cond)))
theorem zg_m22_X6_hasReading : ∀ w ∈ wz_m22_X6_hasReading, goodWord w = true := zg_cons rfl (zg_app (by decide +kernel) (zg_app zg_m21_X6_valueAt zg_nil))
theorem zi_m22_X6_hasReading : ∀ w ∈ wz_m22_X6_hasReading, w ∈ lw_tbl := zi_cons zw_842 (zi_app (zi_cons zw_843 (zi_cons zw_807 (zi_cons zw_808 (zi_cons zw_109 zi_nil)))) (zi_app zi_m21_X6_valueAt zi_nil))
set_option maxHeartbeats 4000000 in
set_option maxRecDepth 100000 in
theorem m22_X6_hasReading (l : Launch) (D : va_G) (zt : Nat × Nat × Nat) (A : Nat → Nat → Int32) (I : Nat → Int32) (d : Nat → ClassId) (q : Nat → Nat) (a185 : Int32) : GM l D zt (tyX d) yX6_hasReading wz_m22_X6_hasReading ({ frames := 1, cells := 0, slots := 0, locals := 21 } : Room) [.ref (q 13), .int a185] (wX q d I A) (fun v _ w' => ∃ (y188 : Int32), (0 ≤ y188.toInt) ∧ (y188.toInt ≤ 1) ∧ v = some (.int y188) ∧ w' = wX q d I A) 0 0 := by
  refine GM.of (cc := cX6_hasReading) (maxL := 2) (ret := (some .boolean)) (own := RX6) (lv := [(0, .ref (q 13)), (1, .int a185)]) (by decide) rfl rfl (Nat.le_of_ble_eq_true rfl) rfl (fun κ sz hk hR hN => ?_)
  refine g_aload_n hk dX6_hasReading_0 rfl ?_
  refine g_iload_n hk dX6_hasReading_1 rfl ?_
  refine g_callV (n := 1) hk (m21_X6_valueAt l D zt A I d q a185) (SP.same _) (fun _ h => h) (gi_V (List.mem_cons_of_mem _ (List.mem_append_left _ (List.mem_of_getElem? (i := 0) rfl))) (List.mem_cons_of_mem _ (List.mem_append_left _ (List.mem_of_getElem? (i := 1) rfl))) (List.mem_cons_of_mem _ (List.mem_append_left _ (List.mem_of_getElem? (i := 2) rfl))) (List.mem_cons_of_mem _ (List.mem_append_left _ (List.mem_of_getElem? (i := 3) rfl))) (gi_sub (fun w h => (List.mem_cons_of_mem _ (List.mem_append_right _ (List.mem_append_left _ h)))) zg_m21_X6_valueAt)) rfl rfl rfl (by decide +kernel) ⟨Nat.le_of_ble_eq_true rfl, Nat.le_of_ble_eq_true rfl⟩ 13 rfl rfl rfl rfl (Nat.le_of_ble_eq_true rfl) ⟨Nat.le_of_ble_eq_true rfl, Nat.le_of_ble_eq_true rfl⟩ dX6_hasReading_2 (fun v ty' w' hp hk' => ?_)
  obtain ⟨y186, rfl, rfl⟩ := hp
  show GW κ 2 0 0 (wX q d I A) 5 [(0, .ref (q 13)), (1, .int a185)] [.int y186]
  refine g_sipush (v := (-1000)) hk dX6_hasReading_5 (by decide) ?_
  refine g_icmp_eq (tgt := 15) (a := y186.toInt) (b := (-1000)) hk dX6_hasReading_8 (by decide) rfl rfl (fun c187 => ?_) (fun c187 => ?_)
  · skip
    refine g_iconst (v := 0) hk dX6_hasReading_15 (by decide) ?_
    exact g_iret hk hR rfl ⟨0, (by decide), (by decide), rfl, rfl⟩ dX6_hasReading_16
  · skip
    refine g_iconst (v := 1) hk dX6_hasReading_11 (by decide) ?_
    refine g_goto (tgt := 16) hk dX6_hasReading_12 (by decide) ?_
    exact g_iret hk hR rfl ⟨1, (by decide), (by decide), rfl, rfl⟩ dX6_hasReading_16
def wo_m23_X4_has : List Cond := [Cond.fieldLink RX4 18 "WarpDesk$Queries" "size" "I"]
def wz_m23_X4_has : List Cond := .code yX4_has cX4_has 2 (some .boolean) :: (wo_m23_X4_has ++ (wsX40 ++ ([] : List Cond)))
theorem zg_m23_X4_has : ∀ w ∈ wz_m23_X4_has, goodWord w = true := zg_cons rfl (zg_app (by decide +kernel) (zg_app zgU_wsX40 zg_nil))
theorem zi_m23_X4_has : ∀ w ∈ wz_m23_X4_has, w ∈ lw_tbl := zi_cons zw_749 (zi_app (zi_cons zw_219 zi_nil) (zi_app inX4 zi_nil))
set_option maxHeartbeats 4000000 in
set_option maxRecDepth 100000 in
theorem m23_X4_has (l : Launch) (D : va_G) (zt : Nat × Nat × Nat) (A : Nat → Nat → Int32) (I : Nat → Int32) (d : Nat → ClassId) (q : Nat → Nat) (a189 : Int32) : GM l D zt (tyX d) yX4_has wz_m23_X4_has ({ frames := 0, cells := 0, slots := 0, locals := 0 } : Room) [.ref (q 15), .int a189] (wX q d I A) (fun v _ w' => ∃ (y193 : Int32), (0 ≤ y193.toInt) ∧ (y193.toInt ≤ 1) ∧ v = some (.int y193) ∧ w' = wX q d I A) 0 0 := by
  refine GM.of (cc := cX4_has) (maxL := 2) (ret := (some .boolean)) (own := RX4) (lv := [(0, .ref (q 15)), (1, .int a189)]) (by decide) rfl rfl (Nat.le_of_ble_eq_true rfl) rfl (fun κ sz hk hR hN => ?_)
  have hin4 : ∀ w ∈ u_ws RX4 TX4 3, w ∈ wz_m23_X4_has := fun w h => (List.mem_cons_of_mem _ (List.mem_append_right _ (List.mem_append_left _ h)))
  refine g_iload_n hk dX4_has_0 rfl ?_
  refine g_if_lt (tgt := 21) (a := a189.toInt) hk dX4_has_1 (by decide) rfl (fun c190 => ?_) (fun c190 => ?_)
  · skip
    refine g_iconst (v := 0) hk dX4_has_21 (by decide) ?_
    exact g_iret hk hR rfl ⟨0, (by decide), (by decide), rfl, rfl⟩ dX4_has_22
  · skip
    refine g_iload_n hk dX4_has_4 rfl ?_
    refine g_aload_n hk dX4_has_5 rfl ?_
    refine gX_i19 (v := (I 19)) hk hin4 (List.mem_cons_of_mem _ (List.mem_append_left _ (List.mem_of_getElem? (i := 0) rfl))) dX4_has_6 rfl ?_
    refine g_icmp_ge (tgt := 21) (a := a189.toInt) (b := (I 19).toInt) hk dX4_has_9 (by decide) rfl rfl (fun c191 => ?_) (fun c191 => ?_)
    · skip
      refine g_iconst (v := 0) hk dX4_has_21 (by decide) ?_
      exact g_iret hk hR rfl ⟨0, (by decide), (by decide), rfl, rfl⟩ dX4_has_22
    · skip
      refine g_iload_n hk dX4_has_12 rfl ?_
      refine g_iconst (v := 5) hk dX4_has_13 (by decide) ?_
      refine g_icmp_ge (tgt := 21) (a := a189.toInt) (b := 5) hk dX4_has_14 (by decide) rfl rfl (fun c192 => ?_) (fun c192 => ?_)
      · skip
        refine g_iconst (v := 0) hk dX4_has_21 (by decide) ?_
        exact g_iret hk hR rfl ⟨0, (by decide), (by decide), rfl, rfl⟩ dX4_has_22
      · skip
        refine g_iconst (v := 1) hk dX4_has_17 (by decide) ?_
        refine g_goto (tgt := 22) hk dX4_has_18 (by decide) ?_
        exact g_iret hk hR rfl ⟨1, (by decide), (by decide), rfl, rfl⟩ dX4_has_22
def wo_m24_X4_has : List Cond := [Cond.fieldLink RX4 18 "WarpDesk$Queries" "size" "I"]
def wz_m24_X4_has : List Cond := .code yX4_has cX4_has 2 (some .boolean) :: (wo_m24_X4_has ++ (wsX40 ++ ([] : List Cond)))
theorem zg_m24_X4_has : ∀ w ∈ wz_m24_X4_has, goodWord w = true := zg_cons rfl (zg_app (by decide +kernel) (zg_app zgU_wsX40 zg_nil))
theorem zi_m24_X4_has : ∀ w ∈ wz_m24_X4_has, w ∈ lw_tbl := zi_cons zw_749 (zi_app (zi_cons zw_219 zi_nil) (zi_app inX4 zi_nil))
set_option maxHeartbeats 4000000 in
set_option maxRecDepth 100000 in
theorem m24_X4_has (l : Launch) (D : va_G) (zt : Nat × Nat × Nat) (A : Nat → Nat → Int32) (I : Nat → Int32) (d : Nat → ClassId) (q : Nat → Nat) (a194 : Int32) : GM l D zt (tyX d) yX4_has wz_m24_X4_has ({ frames := 0, cells := 0, slots := 0, locals := 0 } : Room) [.ref (q 8), .int a194] (wX q d I A) (fun v _ w' => ∃ (y198 : Int32), (0 ≤ y198.toInt) ∧ (y198.toInt ≤ 1) ∧ v = some (.int y198) ∧ w' = wX q d I A) 0 0 := by
  refine GM.of (cc := cX4_has) (maxL := 2) (ret := (some .boolean)) (own := RX4) (lv := [(0, .ref (q 8)), (1, .int a194)]) (by decide) rfl rfl (Nat.le_of_ble_eq_true rfl) rfl (fun κ sz hk hR hN => ?_)
  have hin4 : ∀ w ∈ u_ws RX4 TX4 3, w ∈ wz_m24_X4_has := fun w h => (List.mem_cons_of_mem _ (List.mem_append_right _ (List.mem_append_left _ h)))
  refine g_iload_n hk dX4_has_0 rfl ?_
  refine g_if_lt (tgt := 21) (a := a194.toInt) hk dX4_has_1 (by decide) rfl (fun c195 => ?_) (fun c195 => ?_)
  · skip
    refine g_iconst (v := 0) hk dX4_has_21 (by decide) ?_
    exact g_iret hk hR rfl ⟨0, (by decide), (by decide), rfl, rfl⟩ dX4_has_22
  · skip
    refine g_iload_n hk dX4_has_4 rfl ?_
    refine g_aload_n hk dX4_has_5 rfl ?_
    refine gX_i16 (v := (I 16)) hk hin4 (List.mem_cons_of_mem _ (List.mem_append_left _ (List.mem_of_getElem? (i := 0) rfl))) dX4_has_6 rfl ?_
    refine g_icmp_ge (tgt := 21) (a := a194.toInt) (b := (I 16).toInt) hk dX4_has_9 (by decide) rfl rfl (fun c196 => ?_) (fun c196 => ?_)
    · skip
      refine g_iconst (v := 0) hk dX4_has_21 (by decide) ?_
      exact g_iret hk hR rfl ⟨0, (by decide), (by decide), rfl, rfl⟩ dX4_has_22
    · skip
      refine g_iload_n hk dX4_has_12 rfl ?_
      refine g_iconst (v := 5) hk dX4_has_13 (by decide) ?_
      refine g_icmp_ge (tgt := 21) (a := a194.toInt) (b := 5) hk dX4_has_14 (by decide) rfl rfl (fun c197 => ?_) (fun c197 => ?_)
      · skip
        refine g_iconst (v := 0) hk dX4_has_21 (by decide) ?_
        exact g_iret hk hR rfl ⟨0, (by decide), (by decide), rfl, rfl⟩ dX4_has_22
      · skip
        refine g_iconst (v := 1) hk dX4_has_17 (by decide) ?_
        refine g_goto (tgt := 22) hk dX4_has_18 (by decide) ?_
        exact g_iret hk hR rfl ⟨1, (by decide), (by decide), rfl, rfl⟩ dX4_has_22
def wo_m25_X7_valueOf : List Cond := [Cond.fieldLink RX7 20 "WarpDesk$Settings" "values" "[I"]
def wz_m25_X7_valueOf : List Cond := .code yX7_valueOf cX7_valueOf 2 (some .int) :: (wo_m25_X7_valueOf ++ (wsX70 ++ ([] : List Cond)))
theorem zg_m25_X7_valueOf : ∀ w ∈ wz_m25_X7_valueOf, goodWord w = true := zg_cons rfl (zg_app (by decide +kernel) (zg_app zgU_wsX70 zg_nil))
theorem zi_m25_X7_valueOf : ∀ w ∈ wz_m25_X7_valueOf, w ∈ lw_tbl := zi_cons zw_788 (zi_app (zi_cons zw_190 zi_nil) (zi_app inX7 zi_nil))
set_option maxHeartbeats 4000000 in
set_option maxRecDepth 100000 in
theorem m25_X7_valueOf (l : Launch) (D : va_G) (zt : Nat × Nat × Nat) (A : Nat → Nat → Int32) (I : Nat → Int32) (d : Nat → ClassId) (q : Nat → Nat) (a199 : Int32) : GM l D zt (tyX d) yX7_valueOf wz_m25_X7_valueOf ({ frames := 0, cells := 0, slots := 0, locals := 0 } : Room) [.ref (q 18), .int a199] (wX q d I A) (fun v _ w' => ∃ (y210 : Int32), v = some (.int y210) ∧ w' = wX q d I A) 0 0 := by
  refine GM.of (cc := cX7_valueOf) (maxL := 2) (ret := (some .int)) (own := RX7) (lv := [(0, .ref (q 18)), (1, .int a199)]) (by decide) rfl rfl (Nat.le_of_ble_eq_true rfl) rfl (fun κ sz hk hR hN => ?_)
  have hin7 : ∀ w ∈ u_ws RX7 TX7 1, w ∈ wz_m25_X7_valueOf := fun w h => (List.mem_cons_of_mem _ (List.mem_append_right _ (List.mem_append_left _ h)))
  refine g_iload_n hk dX7_valueOf_0 rfl ?_
  refine g_if_lt (tgt := 22) (a := a199.toInt) hk dX7_valueOf_1 (by decide) rfl (fun c200 => ?_) (fun c200 => ?_)
  · skip
    refine g_iconst (v := (-1)) hk dX7_valueOf_22 (by decide) ?_
    exact g_iret hk hR rfl ⟨(-1), rfl, rfl⟩ dX7_valueOf_23
  · skip
    refine g_iload_n hk dX7_valueOf_4 rfl ?_
    refine g_aload_n hk dX7_valueOf_5 rfl ?_
    refine gX_r18_0 hk hin7 (List.mem_cons_of_mem _ (List.mem_append_left _ (List.mem_of_getElem? (i := 0) rfl))) dX7_valueOf_6 ?_
    refine nX_10 hk dX7_valueOf_9 ?_
    refine g_icmp_ge (tgt := 22) (a := a199.toInt) (b := 4) hk dX7_valueOf_10 (by decide) rfl rfl (fun c201 => ?_) (fun c201 => ?_)
    · skip
      refine g_iconst (v := (-1)) hk dX7_valueOf_22 (by decide) ?_
      exact g_iret hk hR rfl ⟨(-1), rfl, rfl⟩ dX7_valueOf_23
    · skip
      refine g_aload_n hk dX7_valueOf_13 rfl ?_
      refine gX_r18_0 hk hin7 (List.mem_cons_of_mem _ (List.mem_append_left _ (List.mem_of_getElem? (i := 0) rfl))) dX7_valueOf_14 ?_
      refine g_iload_n hk dX7_valueOf_17 rfl ?_
      by_cases c202 : a199.toInt = 0
      · obtain rfl : a199 = 0 := Int32.toInt_inj.mp c202
        refine lX_10 hk (vp_in_iff.mpr ⟨by decide, by decide⟩) rfl dX7_valueOf_18 ?_
        refine g_topi (fun y203 ey203 => ?_)
        refine g_goto (tgt := 23) hk dX7_valueOf_19 (by decide) ?_
        exact g_iret hk hR rfl ⟨y203, rfl, rfl⟩ dX7_valueOf_23
      by_cases c204 : a199.toInt = 1
      · obtain rfl : a199 = 1 := Int32.toInt_inj.mp c204
        refine lX_10 hk (vp_in_iff.mpr ⟨by decide, by decide⟩) rfl dX7_valueOf_18 ?_
        refine g_topi (fun y205 ey205 => ?_)
        refine g_goto (tgt := 23) hk dX7_valueOf_19 (by decide) ?_
        exact g_iret hk hR rfl ⟨y205, rfl, rfl⟩ dX7_valueOf_23
      by_cases c206 : a199.toInt = 2
      · obtain rfl : a199 = 2 := Int32.toInt_inj.mp c206
        refine lX_10 hk (vp_in_iff.mpr ⟨by decide, by decide⟩) rfl dX7_valueOf_18 ?_
        refine g_topi (fun y207 ey207 => ?_)
        refine g_goto (tgt := 23) hk dX7_valueOf_19 (by decide) ?_
        exact g_iret hk hR rfl ⟨y207, rfl, rfl⟩ dX7_valueOf_23
      by_cases c208 : a199.toInt = 3
      · obtain rfl : a199 = 3 := Int32.toInt_inj.mp c208
        refine lX_10 hk (vp_in_iff.mpr ⟨by decide, by decide⟩) rfl dX7_valueOf_18 ?_
        refine g_topi (fun y209 ey209 => ?_)
        refine g_goto (tgt := 23) hk dX7_valueOf_19 (by decide) ?_
        exact g_iret hk hR rfl ⟨y209, rfl, rfl⟩ dX7_valueOf_23
      exfalso; omega
def wo_m27_X3_valueIn : List Cond := []
def wz_m27_X3_valueIn : List Cond := .code yX3_valueIn cX3_valueIn 2 (some .int) :: (wo_m27_X3_valueIn ++ ([] : List Cond))
theorem zg_m27_X3_valueIn : ∀ w ∈ wz_m27_X3_valueIn, goodWord w = true := zg_cons rfl (zg_app (by decide +kernel) zg_nil)
theorem zi_m27_X3_valueIn : ∀ w ∈ wz_m27_X3_valueIn, w ∈ lw_tbl := zi_cons zw_880 (zi_app zi_nil zi_nil)
set_option maxHeartbeats 4000000 in
set_option maxRecDepth 100000 in
theorem m27_X3_valueIn (l : Launch) (D : va_G) (zt : Nat × Nat × Nat) (A : Nat → Nat → Int32) (I : Nat → Int32) (d : Nat → ClassId) (q : Nat → Nat) (a211 : Int32) : GM l D zt (tyX d) yX3_valueIn wz_m27_X3_valueIn ({ frames := 0, cells := 0, slots := 0, locals := 0 } : Room) [.ref (q 21), .int a211] (wX q d I A) (fun v _ w' => ∃ (y215 : Int32), v = some (.int y215) ∧ w' = wX q d I A) 0 0 := by
  refine GM.of (cc := cX3_valueIn) (maxL := 2) (ret := (some .int)) (own := RX3) (lv := [(0, .ref (q 21)), (1, .int a211)]) (by decide) rfl rfl (Nat.le_of_ble_eq_true rfl) rfl (fun κ sz hk hR hN => ?_)
  refine g_iload_n hk dX3_valueIn_0 rfl ?_
  refine g_if_lt (tgt := 16) (a := a211.toInt) hk dX3_valueIn_1 (by decide) rfl (fun c212 => ?_) (fun c212 => ?_)
  · skip
    refine g_iconst (v := 0) hk dX3_valueIn_16 (by decide) ?_
    exact g_iret hk hR rfl ⟨0, rfl, rfl⟩ dX3_valueIn_17
  · skip
    refine g_iload_n hk dX3_valueIn_4 rfl ?_
    refine g_aload_n hk dX3_valueIn_5 rfl ?_
    refine nX_11 hk dX3_valueIn_6 ?_
    refine g_icmp_ge (tgt := 16) (a := a211.toInt) (b := 40) hk dX3_valueIn_7 (by decide) rfl rfl (fun c213 => ?_) (fun c213 => ?_)
    · skip
      refine g_iconst (v := 0) hk dX3_valueIn_16 (by decide) ?_
      exact g_iret hk hR rfl ⟨0, rfl, rfl⟩ dX3_valueIn_17
    · skip
      refine g_aload_n hk dX3_valueIn_10 rfl ?_
      refine g_iload_n hk dX3_valueIn_11 rfl ?_
      refine lX_11 hk (vp_in_iff.mpr ⟨by omega, by omega⟩) rfl dX3_valueIn_12 ?_
      refine g_topi (fun y214 ey214 => ?_)
      refine g_goto (tgt := 17) hk dX3_valueIn_13 (by decide) ?_
      exact g_iret hk hR rfl ⟨y214, rfl, rfl⟩ dX3_valueIn_17
def wo_m26_X3_kindOfStep : List Cond := [Cond.fieldLink RX3 9 "WarpDesk$Past" "kinds" "[I", Cond.fieldLink RX3 23 "WarpDesk$Past" "next" "I", Cond.methodLink RX3 32 yX3_valueIn, Cond.static yX3_valueIn, Cond.initialized RX3]
def wz_m26_X3_kindOfStep : List Cond := .code yX3_kindOfStep cX3_kindOfStep 1 (some .int) :: (wo_m26_X3_kindOfStep ++ (wsX30 ++ (wz_m27_X3_valueIn ++ ([] : List Cond))))
theorem zg_m26_X3_kindOfStep : ∀ w ∈ wz_m26_X3_kindOfStep, goodWord w = true := zg_cons rfl (zg_app (by decide +kernel) (zg_app zgU_wsX30 (zg_app zg_m27_X3_valueIn zg_nil)))
theorem zi_m26_X3_kindOfStep : ∀ w ∈ wz_m26_X3_kindOfStep, w ∈ lw_tbl := zi_cons zw_884 (zi_app (zi_cons zw_302 (zi_cons zw_305 (zi_cons zw_878 (zi_cons zw_879 (zi_cons zw_110 zi_nil))))) (zi_app inX3 (zi_app zi_m27_X3_valueIn zi_nil)))
set_option maxHeartbeats 4000000 in
set_option maxRecDepth 100000 in
theorem m26_X3_kindOfStep (l : Launch) (D : va_G) (zt : Nat × Nat × Nat) (A : Nat → Nat → Int32) (I : Nat → Int32) (d : Nat → ClassId) (q : Nat → Nat) : GM l D zt (tyX d) yX3_kindOfStep wz_m26_X3_kindOfStep ({ frames := 1, cells := 0, slots := 0, locals := 21 } : Room) [.ref (q 20)] (wX q d I A) (fun v _ w' => ∃ (y217 : Int32), v = some (.int y217) ∧ w' = wX q d I A) 0 0 := by
  refine GM.of (cc := cX3_kindOfStep) (maxL := 1) (ret := (some .int)) (own := RX3) (lv := [(0, .ref (q 20))]) (by decide) rfl rfl (Nat.le_of_ble_eq_true rfl) rfl (fun κ sz hk hR hN => ?_)
  have hin3 : ∀ w ∈ u_ws RX3 TX3 5, w ∈ wz_m26_X3_kindOfStep := fun w h => (List.mem_cons_of_mem _ (List.mem_append_right _ (List.mem_append_left _ h)))
  refine g_aload_n hk dX3_kindOfStep_0 rfl ?_
  refine gX_r20_0 hk hin3 (List.mem_cons_of_mem _ (List.mem_append_left _ (List.mem_of_getElem? (i := 0) rfl))) dX3_kindOfStep_1 ?_
  refine g_aload_n hk dX3_kindOfStep_4 rfl ?_
  refine gX_i20 (v := (I 20)) hk hin3 (List.mem_cons_of_mem _ (List.mem_append_left _ (List.mem_of_getElem? (i := 1) rfl))) dX3_kindOfStep_5 rfl ?_
  refine g_callS (n := 2) hk (m27_X3_valueIn l D zt A I d q (I 20)) (SP.same _) (fun _ h => h) (gi_S (List.mem_cons_of_mem _ (List.mem_append_left _ (List.mem_of_getElem? (i := 2) rfl))) (List.mem_cons_of_mem _ (List.mem_append_left _ (List.mem_of_getElem? (i := 3) rfl))) (List.mem_cons_of_mem _ (List.mem_append_left _ (List.mem_of_getElem? (i := 4) rfl))) (gi_sub (fun w h => (List.mem_cons_of_mem _ (List.mem_append_right _ (List.mem_append_right _ (List.mem_append_left _ h))))) zg_m27_X3_valueIn)) rfl rfl rfl (by decide +kernel) ⟨Nat.le_of_ble_eq_true rfl, Nat.le_of_ble_eq_true rfl⟩ rfl rfl (Nat.le_of_ble_eq_true rfl) ⟨Nat.le_of_ble_eq_true rfl, Nat.le_of_ble_eq_true rfl⟩ dX3_kindOfStep_8 (fun v ty' w' hp hk' => ?_)
  obtain ⟨y216, rfl, rfl⟩ := hp
  show GW κ 1 0 0 (wX q d I A) 11 [(0, .ref (q 20))] [.int y216]
  exact g_iret hk hR rfl ⟨y216, rfl, rfl⟩ dX3_kindOfStep_11
def wo_m28_X10_byteAt : List Cond := [Cond.fieldLink RX10 15 "WarpDesk$Tape" "size" "I", Cond.fieldLink RX10 9 "WarpDesk$Tape" "bytes" "[I"]
def wz_m28_X10_byteAt : List Cond := .code yX10_byteAt cX10_byteAt 2 (some .int) :: (wo_m28_X10_byteAt ++ (wsX100 ++ ([] : List Cond)))
theorem zg_m28_X10_byteAt : ∀ w ∈ wz_m28_X10_byteAt, goodWord w = true := zg_cons rfl (zg_app (by decide +kernel) (zg_app zgU_wsX100 zg_nil))
theorem zi_m28_X10_byteAt : ∀ w ∈ wz_m28_X10_byteAt, w ∈ lw_tbl := zi_cons zw_569 (zi_app (zi_cons zw_137 (zi_cons zw_135 zi_nil)) (zi_app inX10 zi_nil))
set_option maxHeartbeats 4000000 in
set_option maxRecDepth 100000 in
theorem m28_X10_byteAt (l : Launch) (D : va_G) (zt : Nat × Nat × Nat) (A : Nat → Nat → Int32) (I : Nat → Int32) (d : Nat → ClassId) (q : Nat → Nat) (a218 : Int32) : GM l D zt (tyX d) yX10_byteAt wz_m28_X10_byteAt ({ frames := 0, cells := 0, slots := 0, locals := 0 } : Room) [.ref (q 1), .int a218] (wX q d I A) (fun v _ w' => ∃ (y223 : Int32), v = some (.int y223) ∧ w' = wX q d I A) 0 0 := by
  refine GM.of (cc := cX10_byteAt) (maxL := 2) (ret := (some .int)) (own := RX10) (lv := [(0, .ref (q 1)), (1, .int a218)]) (by decide) rfl rfl (Nat.le_of_ble_eq_true rfl) rfl (fun κ sz hk hR hN => ?_)
  have hin10 : ∀ w ∈ u_ws RX10 TX10 7, w ∈ wz_m28_X10_byteAt := fun w h => (List.mem_cons_of_mem _ (List.mem_append_right _ (List.mem_append_left _ h)))
  refine g_iload_n hk dX10_byteAt_0 rfl ?_
  refine g_if_lt (tgt := 30) (a := a218.toInt) hk dX10_byteAt_1 (by decide) rfl (fun c219 => ?_) (fun c219 => ?_)
  · skip
    refine g_iconst (v := (-1)) hk dX10_byteAt_30 (by decide) ?_
    exact g_iret hk hR rfl ⟨(-1), rfl, rfl⟩ dX10_byteAt_31
  · skip
    refine g_iload_n hk dX10_byteAt_4 rfl ?_
    refine g_aload_n hk dX10_byteAt_5 rfl ?_
    refine gX_i0 (v := (I 0)) hk hin10 (List.mem_cons_of_mem _ (List.mem_append_left _ (List.mem_of_getElem? (i := 0) rfl))) dX10_byteAt_6 rfl ?_
    refine g_icmp_ge (tgt := 30) (a := a218.toInt) (b := (I 0).toInt) hk dX10_byteAt_9 (by decide) rfl rfl (fun c220 => ?_) (fun c220 => ?_)
    · skip
      refine g_iconst (v := (-1)) hk dX10_byteAt_30 (by decide) ?_
      exact g_iret hk hR rfl ⟨(-1), rfl, rfl⟩ dX10_byteAt_31
    · skip
      refine g_iload_n hk dX10_byteAt_12 rfl ?_
      refine g_aload_n hk dX10_byteAt_13 rfl ?_
      refine gX_r1_0 hk hin10 (List.mem_cons_of_mem _ (List.mem_append_left _ (List.mem_of_getElem? (i := 1) rfl))) dX10_byteAt_14 ?_
      refine nX_0 hk dX10_byteAt_17 ?_
      refine g_icmp_ge (tgt := 30) (a := a218.toInt) (b := 2000) hk dX10_byteAt_18 (by decide) rfl rfl (fun c221 => ?_) (fun c221 => ?_)
      · skip
        refine g_iconst (v := (-1)) hk dX10_byteAt_30 (by decide) ?_
        exact g_iret hk hR rfl ⟨(-1), rfl, rfl⟩ dX10_byteAt_31
      · skip
        refine g_aload_n hk dX10_byteAt_21 rfl ?_
        refine gX_r1_0 hk hin10 (List.mem_cons_of_mem _ (List.mem_append_left _ (List.mem_of_getElem? (i := 1) rfl))) dX10_byteAt_22 ?_
        refine g_iload_n hk dX10_byteAt_25 rfl ?_
        refine lX_0 hk (vp_in_iff.mpr ⟨by omega, by omega⟩) rfl dX10_byteAt_26 ?_
        refine g_topi (fun y222 ey222 => ?_)
        refine g_goto (tgt := 31) hk dX10_byteAt_27 (by decide) ?_
        exact g_iret hk hR rfl ⟨y222, rfl, rfl⟩ dX10_byteAt_31
def wo_m29_X10_lengthAtHand : List Cond := [Cond.fieldLink RX10 19 "WarpDesk$Tape" "behind" "I", Cond.fieldLink RX10 32 "WarpDesk$Tape" "start" "I"]
def wz_m29_X10_lengthAtHand : List Cond := .code yX10_lengthAtHand cX10_lengthAtHand 1 (some .int) :: (wo_m29_X10_lengthAtHand ++ (wsX100 ++ ([] : List Cond)))
theorem zg_m29_X10_lengthAtHand : ∀ w ∈ wz_m29_X10_lengthAtHand, goodWord w = true := zg_cons rfl (zg_app (by decide +kernel) (zg_app zgU_wsX100 zg_nil))
theorem zi_m29_X10_lengthAtHand : ∀ w ∈ wz_m29_X10_lengthAtHand, w ∈ lw_tbl := zi_cons zw_600 (zi_app (zi_cons zw_146 (zi_cons zw_140 zi_nil)) (zi_app inX10 zi_nil))
set_option maxHeartbeats 4000000 in
set_option maxRecDepth 100000 in
theorem m29_X10_lengthAtHand (l : Launch) (D : va_G) (zt : Nat × Nat × Nat) (A : Nat → Nat → Int32) (I : Nat → Int32) (d : Nat → ClassId) (q : Nat → Nat) : GM l D zt (tyX d) yX10_lengthAtHand wz_m29_X10_lengthAtHand ({ frames := 0, cells := 0, slots := 0, locals := 0 } : Room) [.ref (q 1)] (wX q d I A) (fun v _ w' => ∃ (y225 : Int32), v = some (.int y225) ∧ w' = wX q d I A) 0 0 := by
  refine GM.of (cc := cX10_lengthAtHand) (maxL := 1) (ret := (some .int)) (own := RX10) (lv := [(0, .ref (q 1))]) (by decide) rfl rfl (Nat.le_of_ble_eq_true rfl) rfl (fun κ sz hk hR hN => ?_)
  have hin10 : ∀ w ∈ u_ws RX10 TX10 7, w ∈ wz_m29_X10_lengthAtHand := fun w h => (List.mem_cons_of_mem _ (List.mem_append_right _ (List.mem_append_left _ h)))
  refine g_aload_n hk dX10_lengthAtHand_0 rfl ?_
  refine gX_i5 (v := (I 5)) hk hin10 (List.mem_cons_of_mem _ (List.mem_append_left _ (List.mem_of_getElem? (i := 0) rfl))) dX10_lengthAtHand_1 rfl ?_
  refine g_aload_n hk dX10_lengthAtHand_4 rfl ?_
  refine gX_i2 (v := (I 2)) hk hin10 (List.mem_cons_of_mem _ (List.mem_append_left _ (List.mem_of_getElem? (i := 1) rfl))) dX10_lengthAtHand_5 rfl ?_
  refine g_isub hk dX10_lengthAtHand_8 ?_
  refine g_topi (fun y224 ey224 => ?_)
  exact g_iret hk hR rfl ⟨y224, rfl, rfl⟩ dX10_lengthAtHand_9
def wo_m30_X8_valueAt : List Cond := [Cond.fieldLink RX8 22 "WarpDesk$Stand" "size" "I", Cond.fieldLink RX8 9 "WarpDesk$Stand" "places" "[I"]
def wz_m30_X8_valueAt : List Cond := .code yX8_valueAt cX8_valueAt 2 (some .int) :: (wo_m30_X8_valueAt ++ (wsX80 ++ ([] : List Cond)))
theorem zg_m30_X8_valueAt : ∀ w ∈ wz_m30_X8_valueAt, goodWord w = true := zg_cons rfl (zg_app (by decide +kernel) (zg_app zgU_wsX80 zg_nil))
theorem zi_m30_X8_valueAt : ∀ w ∈ wz_m30_X8_valueAt, w ∈ lw_tbl := zi_cons zw_776 (zi_app (zi_cons zw_195 (zi_cons zw_194 zi_nil)) (zi_app inX8 zi_nil))
set_option maxHeartbeats 4000000 in
set_option maxRecDepth 100000 in
theorem m30_X8_valueAt (l : Launch) (D : va_G) (zt : Nat × Nat × Nat) (A : Nat → Nat → Int32) (I : Nat → Int32) (d : Nat → ClassId) (q : Nat → Nat) (a226 : Int32) : GM l D zt (tyX d) yX8_valueAt wz_m30_X8_valueAt ({ frames := 0, cells := 0, slots := 0, locals := 0 } : Room) [.ref (q 4), .int a226] (wX q d I A) (fun v _ w' => ∃ (y231 : Int32), v = some (.int y231) ∧ w' = wX q d I A) 0 0 := by
  refine GM.of (cc := cX8_valueAt) (maxL := 2) (ret := (some .int)) (own := RX8) (lv := [(0, .ref (q 4)), (1, .int a226)]) (by decide) rfl rfl (Nat.le_of_ble_eq_true rfl) rfl (fun κ sz hk hR hN => ?_)
  have hin8 : ∀ w ∈ u_ws RX8 TX8 4, w ∈ wz_m30_X8_valueAt := fun w h => (List.mem_cons_of_mem _ (List.mem_append_right _ (List.mem_append_left _ h)))
  refine g_iload_n hk dX8_valueAt_0 rfl ?_
  refine g_if_lt (tgt := 30) (a := a226.toInt) hk dX8_valueAt_1 (by decide) rfl (fun c227 => ?_) (fun c227 => ?_)
  · skip
    refine g_sipush (v := (-1000)) hk dX8_valueAt_30 (by decide) ?_
    exact g_iret hk hR rfl ⟨(-1000), rfl, rfl⟩ dX8_valueAt_33
  · skip
    refine g_iload_n hk dX8_valueAt_4 rfl ?_
    refine g_aload_n hk dX8_valueAt_5 rfl ?_
    refine gX_i14 (v := (I 14)) hk hin8 (List.mem_cons_of_mem _ (List.mem_append_left _ (List.mem_of_getElem? (i := 0) rfl))) dX8_valueAt_6 rfl ?_
    refine g_icmp_ge (tgt := 30) (a := a226.toInt) (b := (I 14).toInt) hk dX8_valueAt_9 (by decide) rfl rfl (fun c228 => ?_) (fun c228 => ?_)
    · skip
      refine g_sipush (v := (-1000)) hk dX8_valueAt_30 (by decide) ?_
      exact g_iret hk hR rfl ⟨(-1000), rfl, rfl⟩ dX8_valueAt_33
    · skip
      refine g_iload_n hk dX8_valueAt_12 rfl ?_
      refine g_aload_n hk dX8_valueAt_13 rfl ?_
      refine gX_r4_0 hk hin8 (List.mem_cons_of_mem _ (List.mem_append_left _ (List.mem_of_getElem? (i := 1) rfl))) dX8_valueAt_14 ?_
      refine nX_1 hk dX8_valueAt_17 ?_
      refine g_icmp_ge (tgt := 30) (a := a226.toInt) (b := 160) hk dX8_valueAt_18 (by decide) rfl rfl (fun c229 => ?_) (fun c229 => ?_)
      · skip
        refine g_sipush (v := (-1000)) hk dX8_valueAt_30 (by decide) ?_
        exact g_iret hk hR rfl ⟨(-1000), rfl, rfl⟩ dX8_valueAt_33
      · skip
        refine g_aload_n hk dX8_valueAt_21 rfl ?_
        refine gX_r4_0 hk hin8 (List.mem_cons_of_mem _ (List.mem_append_left _ (List.mem_of_getElem? (i := 1) rfl))) dX8_valueAt_22 ?_
        refine g_iload_n hk dX8_valueAt_25 rfl ?_
        refine lX_1 hk (vp_in_iff.mpr ⟨by omega, by omega⟩) rfl dX8_valueAt_26 ?_
        refine g_topi (fun y230 ey230 => ?_)
        refine g_goto (tgt := 33) hk dX8_valueAt_27 (by decide) ?_
        exact g_iret hk hR rfl ⟨y230, rfl, rfl⟩ dX8_valueAt_33
