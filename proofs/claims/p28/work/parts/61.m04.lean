noncomputable def fM12_toldInt (I : Nat → Int32) (A : Nat → Nat → Int32) (L : Nat → Nat → Int64) (z1 : Int32) (z2 : Int32) : Int32 × (Nat → Int32) × (Nat → Nat → Int32) × (Nat → Nat → Int64) := f_bdM (fM12_goesOn I A L) fun _ I26122 A26122 L26122 => f_bdM (fM12_bounded I26122 A26122 L26122 z1 z2) fun y26132 I26133 A26133 L26133 => f_bdM (fM12_must I26133 A26133 L26133 4) fun _ I26146 A26146 L26146 => (y26132, I26146, A26146, L26146)
def wo_j136_X12_toldInt : List Cond := [Cond.methodLink RX12 191 yX12_goesOn, Cond.instanceMethod yX12_goesOn, Cond.selects RX12 yX12_goesOn yX12_goesOn, Cond.initialized RX12, Cond.methodLink RX12 212 yX12_bounded, Cond.instanceMethod yX12_bounded, Cond.selects RX12 yX12_bounded yX12_bounded, Cond.methodLink RX12 216 yX12_must, Cond.instanceMethod yX12_must, Cond.selects RX12 yX12_must yX12_must]
def wz_j136_X12_toldInt : List Cond := .code yX12_toldInt cX12_toldInt 4 (some .int) :: (wo_j136_X12_toldInt ++ (wz_j127_X12_goesOn ++ (wz_j133_X12_bounded ++ (wz_j131_X12_must ++ ([] : List Cond)))))
theorem zg_j136_X12_toldInt : ∀ w ∈ wz_j136_X12_toldInt, goodWord w = true := zg_cons rfl (zg_app (by decide +kernel) (zg_app zg_j127_X12_goesOn (zg_app zg_j133_X12_bounded (zg_app zg_j131_X12_must zg_nil))))
theorem zi_j136_X12_toldInt : ∀ w ∈ wz_j136_X12_toldInt, w ∈ lw_tbl := zi_cons zw_1631 (zi_app (zi_cons zw_1591 (zi_cons zw_1593 (zi_cons zw_54 (zi_cons zw_115 (zi_cons zw_1612 (zi_cons zw_1614 (zi_cons zw_59 (zi_cons zw_1620 (zi_cons zw_1622 (zi_cons zw_61 zi_nil)))))))))) (zi_app zi_j127_X12_goesOn (zi_app zi_j133_X12_bounded (zi_app zi_j131_X12_must zi_nil))))
set_option maxHeartbeats 4000000 in
set_option maxRecDepth 100000 in
theorem j136_X12_toldInt (l : Launch) (D : va_G) (zt : Nat × Nat × Nat × (Nat → Nat) × (Nat → Nat)) (r : Nat → Nat) (g : Nat → ClassId) (I : Nat → Int32) (A : Nat → Nat → Int32) (L : Nat → Nat → Int64) (z1 : Int32) (z2 : Int32) (hIv : IvM I A) : GM l D zt (tyM g) yX12_toldInt wz_j136_X12_toldInt ({ frames := 3, cells := 0, slots := 0, locals := 64 } : Room) [.ref (r 0), .int z1, .int z2] (wM r g I A L) (fun v _ w' => ∃ (I' : Nat → Int32) (A' : Nat → Nat → Int32) (L' : Nat → Nat → Int64), Md [4, 6, 7, 8, 9, 12, 13] I I' ∧ Md [] A A' ∧ IvM I' A' ∧ ∃ y0 : Int32, ((I 4).toInt ≤ (I' 4).toInt) ∧ ((I 6).toInt ≤ (I' 6).toInt) ∧ ((I 8).toInt ≤ 9 * (I' 8).toInt) ∧ ((I 4).toInt < (I' 4).toInt + (I' 6).toInt) ∧ (z1.toInt ≤ y0.toInt + 8589934592 * ((I' 6).toInt + (I' 8).toInt)) ∧ (L' = L) ∧ FE (fM12_toldInt I A L z1 z2) (y0, I', A', L') ∧ v = some (.int y0) ∧ w' = wM r g I' A' L') 0 0 := by
  refine GM.of (cc := cX12_toldInt) (maxL := 4) (ret := (some .int)) (own := RX12) (lv := [(0, .ref (r 0)), (1, .int z1), (2, .int z2)]) (by decide) rfl rfl (Nat.le_of_ble_eq_true rfl) rfl (fun κ sz hk hR hN => ?_)
  have hF : FE (fM12_toldInt I A L z1 z2) (fM12_toldInt I A L z1 z2) := FE.rf
  refine g_aload_n hk dX12_toldInt_0 rfl ?_
  refine g_callV (n := 0) hk (j127_X12_goesOn l D zt r g I A L  hIv) (SP.same _) (fun _ h => h) (gi_V (List.mem_cons_of_mem _ (List.mem_append_left _ (List.mem_of_getElem? (i := 0) rfl))) (List.mem_cons_of_mem _ (List.mem_append_left _ (List.mem_of_getElem? (i := 1) rfl))) (List.mem_cons_of_mem _ (List.mem_append_left _ (List.mem_of_getElem? (i := 2) rfl))) (List.mem_cons_of_mem _ (List.mem_append_left _ (List.mem_of_getElem? (i := 3) rfl))) (gi_sub (fun w h => (List.mem_cons_of_mem _ (List.mem_append_right _ (List.mem_append_left _ h)))) zg_j127_X12_goesOn)) rfl rfl rfl (by decide +kernel) ⟨Nat.le_of_ble_eq_true rfl, Nat.le_of_ble_eq_true rfl⟩ 0 rfl rfl rfl rfl (Nat.le_of_ble_eq_true rfl) ⟨Nat.le_of_ble_eq_true rfl, Nat.le_of_ble_eq_true rfl⟩ dX12_toldInt_1 (fun v ty' w' hp hk' => ?_)
  obtain ⟨I26122, A26122, L26122, hI26122, hA26122, hV26122, r26123, r26124, r26125, r26126, hL26122, hC, rfl, rfl⟩ := hp
  replace hF := FE.bdM hF hC
  have f26127 := IvM_f4 hIv
  have f26128 := IvM_f4 hV26122
  have f26129 := IvM_f6 hIv
  have f26130 := IvM_f6 hV26122
  have f26131 := IvM_f8 hIv
  rw [show (I26122 8) = (I 8) from (hI26122 8 rfl)] at r26125
  show GW κ 4 0 0 (wM r g I26122 A26122 L26122) 4 [(0, .ref (r 0)), (1, .int z1), (2, .int z2)] []
  refine g_aload_n hk dX12_toldInt_4 rfl ?_
  refine g_iload_n hk dX12_toldInt_5 rfl ?_
  refine g_iload_n hk dX12_toldInt_6 rfl ?_
  refine g_callV (n := 2) hk (j133_X12_bounded l D zt r g I26122 A26122 L26122 z1 z2 hV26122) (SP.same _) (fun _ h => h) (gi_V (List.mem_cons_of_mem _ (List.mem_append_left _ (List.mem_of_getElem? (i := 4) rfl))) (List.mem_cons_of_mem _ (List.mem_append_left _ (List.mem_of_getElem? (i := 5) rfl))) (List.mem_cons_of_mem _ (List.mem_append_left _ (List.mem_of_getElem? (i := 6) rfl))) (List.mem_cons_of_mem _ (List.mem_append_left _ (List.mem_of_getElem? (i := 3) rfl))) (gi_sub (fun w h => (List.mem_cons_of_mem _ (List.mem_append_right _ (List.mem_append_right _ (List.mem_append_left _ h))))) zg_j133_X12_bounded)) rfl rfl rfl (by decide +kernel) ⟨Nat.le_of_ble_eq_true rfl, Nat.le_of_ble_eq_true rfl⟩ 0 rfl rfl rfl rfl (Nat.le_of_ble_eq_true rfl) ⟨Nat.le_of_ble_eq_true rfl, Nat.le_of_ble_eq_true rfl⟩ dX12_toldInt_7 (fun v ty' w' hp hk' => ?_)
  obtain ⟨I26133, A26133, L26133, hI26133, hA26133, hV26133, y26132, r26134, r26135, r26136, r26137, r26138, hL26133, hC, rfl, rfl⟩ := hp
  replace hF := FE.bdM hF hC
  have f26139 := IvM_f4 hV26133
  have f26140 := IvM_f6 hV26133
  have f26141 := IvM_f8 hV26133
  rw [show (I26122 8) = (I 8) from (hI26122 8 rfl)] at r26136
  have b26142l := Int32.le_toInt z1
  have b26142h := Int32.toInt_lt z1
  have b26143l := Int32.le_toInt y26132
  have b26143h := Int32.toInt_lt y26132
  show GW κ 4 0 0 (wM r g I26133 A26133 L26133) 10 [(0, .ref (r 0)), (1, .int z1), (2, .int z2)] [.int y26132]
  refine g_istore_n (lv' := [(3, .int y26132), (0, .ref (r 0)), (1, .int z1), (2, .int z2)]) hk dX12_toldInt_10 (by decide) rfl ?_
  refine g_aload_n hk dX12_toldInt_11 rfl ?_
  refine g_iconst (v := 4) hk dX12_toldInt_12 (by decide) ?_
  have k26144 : (4 : Int32).toInt = 4 := rfl
  refine g_callV (n := 1) hk (j131_X12_must l D zt r g I26133 A26133 L26133 4 hV26133) (SP.same _) (fun _ h => h) (gi_V (List.mem_cons_of_mem _ (List.mem_append_left _ (List.mem_of_getElem? (i := 7) rfl))) (List.mem_cons_of_mem _ (List.mem_append_left _ (List.mem_of_getElem? (i := 8) rfl))) (List.mem_cons_of_mem _ (List.mem_append_left _ (List.mem_of_getElem? (i := 9) rfl))) (List.mem_cons_of_mem _ (List.mem_append_left _ (List.mem_of_getElem? (i := 3) rfl))) (gi_sub (fun w h => (List.mem_cons_of_mem _ (List.mem_append_right _ (List.mem_append_right _ (List.mem_append_right _ (List.mem_append_left _ h)))))) zg_j131_X12_must)) rfl rfl rfl (by decide +kernel) ⟨Nat.le_of_ble_eq_true rfl, Nat.le_of_ble_eq_true rfl⟩ 0 rfl rfl rfl rfl (Nat.le_of_ble_eq_true rfl) ⟨Nat.le_of_ble_eq_true rfl, Nat.le_of_ble_eq_true rfl⟩ dX12_toldInt_13 (fun v ty' w' hp hk' => ?_)
  obtain ⟨I26146, A26146, L26146, hI26146, hA26146, hV26146, r26147, r26148, r26149, r26150, r26151, hL26146, hC, rfl, rfl⟩ := hp
  replace hF := FE.bdM hF hC
  have f26152 := IvM_f4 hV26146
  have f26153 := IvM_f6 hV26146
  rw [show (I26146 8) = (I26133 8) from (hI26146 8 rfl)] at r26149
  rw [show (A26133 2 (I26133 4).toNatClampNeg) = (A 2 (I26133 4).toNatClampNeg) from ((congrFun (hA26133 2 rfl) _).trans (congrFun (hA26122 2 rfl) _))] at r26151
  show GW κ 4 0 0 (wM r g I26146 A26146 L26146) 16 [(3, .int y26132), (0, .ref (r 0)), (1, .int z1), (2, .int z2)] []
  refine g_iload_n hk dX12_toldInt_16 rfl ?_
  exact g_iret hk hR rfl ⟨I26146, A26146, L26146, (show Md [4, 6, 7, 8, 9, 12, 13] I I26146 from (Md.tr (Md.tr (Md.tr Md.rf hI26122 rfl) hI26133 rfl) hI26146 rfl)), (show Md [] A A26146 from (Md.tr (Md.tr (Md.tr Md.rf hA26122 rfl) hA26133 rfl) hA26146 rfl)), hV26146, y26132, (by omega), (by omega), (by rw [show (I26146 8) = (I26133 8) from (hI26146 8 rfl)] <;> omega), (by omega), (by rw [show (I26146 8) = (I26133 8) from (hI26146 8 rfl)] <;> omega), (show L26146 = L from (hL26146.trans (hL26133.trans hL26122))), hF, rfl, rfl⟩ dX12_toldInt_17
noncomputable def fM12_toldWord (I : Nat → Int32) (A : Nat → Nat → Int32) (L : Nat → Nat → Int64) (z1 : Int32) (z2 : Int32) : Int32 × (Nat → Int32) × (Nat → Nat → Int32) × (Nat → Nat → Int64) := f_bdM (fM12_goesOn I A L) fun _ I26189 A26189 L26189 => if (I26189 6).toInt ≤ 0 then f_lt ((A 2 (I26189 4).toNatClampNeg) - z1) fun y26202 => if y26202.toInt < 0 then f_bdM (fM12_fail I26189 A26189 L26189 1) fun _ I26207 A26207 L26207 => if (I26207 6).toInt ≠ 0 then f_bdM (fM12_must I26207 A26207 L26207 4) fun _ I26215 A26215 L26215 => (y26202, I26215, A26215, L26215) else f_bdM (fM12_goesOn I26207 A26207 L26207) fun _ I26224 A26224 L26224 => f_bdM (fM12_must I26224 A26224 L26224 4) fun _ I26233 A26233 L26233 => (y26202, I26233, A26233, L26233) else if y26202.toInt < z2.toInt then f_bdM (fM12_goesOn I26189 A26189 L26189) fun _ I26244 A26244 L26244 => f_bdM (fM12_must I26244 A26244 L26244 4) fun _ I26253 A26253 L26253 => (y26202, I26253, A26253, L26253) else f_bdM (fM12_fail I26189 A26189 L26189 1) fun _ I26263 A26263 L26263 => if (I26263 6).toInt ≠ 0 then f_bdM (fM12_must I26263 A26263 L26263 4) fun _ I26271 A26271 L26271 => (y26202, I26271, A26271, L26271) else f_bdM (fM12_goesOn I26263 A26263 L26263) fun _ I26280 A26280 L26280 => f_bdM (fM12_must I26280 A26280 L26280 4) fun _ I26289 A26289 L26289 => (y26202, I26289, A26289, L26289) else f_bdM (fM12_fail I26189 A26189 L26189 1) fun _ I26299 A26299 L26299 => if (I26299 6).toInt ≠ 0 then f_bdM (fM12_must I26299 A26299 L26299 4) fun _ I26307 A26307 L26307 => ((-1), I26307, A26307, L26307) else f_bdM (fM12_goesOn I26299 A26299 L26299) fun _ I26316 A26316 L26316 => f_bdM (fM12_must I26316 A26316 L26316 4) fun _ I26325 A26325 L26325 => ((-1), I26325, A26325, L26325)
def wo_j137_X12_toldWord : List Cond := [Cond.methodLink RX12 191 yX12_goesOn, Cond.instanceMethod yX12_goesOn, Cond.selects RX12 yX12_goesOn yX12_goesOn, Cond.initialized RX12, Cond.fieldLink RX12 161 "WarpDeskModel" "fault" "I", Cond.fieldLink RX12 20 "WarpDeskModel" "tKind" "[I", Cond.fieldLink RX12 164 "WarpDeskModel" "t" "I", Cond.methodLink RX12 185 yX12_fail, Cond.instanceMethod yX12_fail, Cond.selects RX12 yX12_fail yX12_fail, Cond.methodLink RX12 216 yX12_must, Cond.instanceMethod yX12_must, Cond.selects RX12 yX12_must yX12_must]
def wz_j137_X12_toldWord : List Cond := .code yX12_toldWord cX12_toldWord 4 (some .int) :: (wo_j137_X12_toldWord ++ (wsX120 ++ (wz_j127_X12_goesOn ++ (wz_j128_X12_fail ++ (wz_j131_X12_must ++ ([] : List Cond))))))
theorem zg_j137_X12_toldWord : ∀ w ∈ wz_j137_X12_toldWord, goodWord w = true := zg_cons rfl (zg_app (by decide +kernel) (zg_app zgU_wsX120 (zg_app zg_j127_X12_goesOn (zg_app zg_j128_X12_fail (zg_app zg_j131_X12_must zg_nil)))))
theorem zi_j137_X12_toldWord : ∀ w ∈ wz_j137_X12_toldWord, w ∈ lw_tbl := zi_cons zw_1635 (zi_app (zi_cons zw_1591 (zi_cons zw_1593 (zi_cons zw_54 (zi_cons zw_115 (zi_cons zw_1391 (zi_cons zw_1384 (zi_cons zw_1390 (zi_cons zw_1595 (zi_cons zw_1597 (zi_cons zw_55 (zi_cons zw_1620 (zi_cons zw_1622 (zi_cons zw_61 zi_nil))))))))))))) (zi_app inX12 (zi_app zi_j127_X12_goesOn (zi_app zi_j128_X12_fail (zi_app zi_j131_X12_must zi_nil)))))
set_option maxHeartbeats 4000000 in
set_option maxRecDepth 100000 in
theorem j137_X12_toldWord (l : Launch) (D : va_G) (zt : Nat × Nat × Nat × (Nat → Nat) × (Nat → Nat)) (r : Nat → Nat) (g : Nat → ClassId) (I : Nat → Int32) (A : Nat → Nat → Int32) (L : Nat → Nat → Int64) (z1 : Int32) (z2 : Int32) (hIv : IvM I A) : GM l D zt (tyM g) yX12_toldWord wz_j137_X12_toldWord ({ frames := 3, cells := 0, slots := 0, locals := 62 } : Room) [.ref (r 0), .int z1, .int z2] (wM r g I A L) (fun v _ w' => ∃ (I' : Nat → Int32) (A' : Nat → Nat → Int32) (L' : Nat → Nat → Int64), Md [4, 6, 7, 12] I I' ∧ Md [] A A' ∧ IvM I' A' ∧ ∃ y0 : Int32, ((I 4).toInt ≤ (I' 4).toInt) ∧ ((I 6).toInt ≤ (I' 6).toInt) ∧ ((I 8).toInt ≤ 9 * (I' 8).toInt) ∧ ((I 4).toInt < (I' 4).toInt + (I' 6).toInt) ∧ (L' = L) ∧ FE (fM12_toldWord I A L z1 z2) (y0, I', A', L') ∧ v = some (.int y0) ∧ w' = wM r g I' A' L') 0 0 := by
  refine GM.of (cc := cX12_toldWord) (maxL := 4) (ret := (some .int)) (own := RX12) (lv := [(0, .ref (r 0)), (1, .int z1), (2, .int z2)]) (by decide) rfl rfl (Nat.le_of_ble_eq_true rfl) rfl (fun κ sz hk hR hN => ?_)
  have hin12 : ∀ w ∈ u_ws RX12 TX12 55, w ∈ wz_j137_X12_toldWord := fun w h => (List.mem_cons_of_mem _ (List.mem_append_right _ (List.mem_append_left _ h)))
  have hF : FE (fM12_toldWord I A L z1 z2) (fM12_toldWord I A L z1 z2) := FE.rf
  refine g_aload_n hk dX12_toldWord_0 rfl ?_
  refine g_callV (n := 0) hk (j127_X12_goesOn l D zt r g I A L  hIv) (SP.same _) (fun _ h => h) (gi_V (List.mem_cons_of_mem _ (List.mem_append_left _ (List.mem_of_getElem? (i := 0) rfl))) (List.mem_cons_of_mem _ (List.mem_append_left _ (List.mem_of_getElem? (i := 1) rfl))) (List.mem_cons_of_mem _ (List.mem_append_left _ (List.mem_of_getElem? (i := 2) rfl))) (List.mem_cons_of_mem _ (List.mem_append_left _ (List.mem_of_getElem? (i := 3) rfl))) (gi_sub (fun w h => (List.mem_cons_of_mem _ (List.mem_append_right _ (List.mem_append_right _ (List.mem_append_left _ h))))) zg_j127_X12_goesOn)) rfl rfl rfl (by decide +kernel) ⟨Nat.le_of_ble_eq_true rfl, Nat.le_of_ble_eq_true rfl⟩ 0 rfl rfl rfl rfl (Nat.le_of_ble_eq_true rfl) ⟨Nat.le_of_ble_eq_true rfl, Nat.le_of_ble_eq_true rfl⟩ dX12_toldWord_1 (fun v ty' w' hp hk' => ?_)
  obtain ⟨I26189, A26189, L26189, hI26189, hA26189, hV26189, r26190, r26191, r26192, r26193, hL26189, hC, rfl, rfl⟩ := hp
  replace hF := FE.bdM hF hC
  have f26194 := IvM_f4 hIv
  have f26195 := IvM_f4 hV26189
  have f26196 := IvM_f6 hIv
  have f26197 := IvM_f6 hV26189
  have f26198 := IvM_f8 hIv
  rw [show (I26189 8) = (I 8) from (hI26189 8 rfl)] at r26192
  show GW κ 4 0 0 (wM r g I26189 A26189 L26189) 4 [(0, .ref (r 0)), (1, .int z1), (2, .int z2)] []
  refine g_aload_n hk dX12_toldWord_4 rfl ?_
  refine gM_i6 (v := (I26189 6)) hk hin12 (List.mem_cons_of_mem _ (List.mem_append_left _ (List.mem_of_getElem? (i := 4) rfl))) dX12_toldWord_5 rfl ?_
  refine g_if_le (tgt := 15) (a := (I26189 6).toInt) hk dX12_toldWord_8 (by decide) rfl (fun c26199 => ?_) (fun c26199 => ?_)
  · skip
    replace hF := FE.pos hF c26199
    refine g_aload_n hk dX12_toldWord_15 rfl ?_
    refine gM_r0_5 hk hin12 (List.mem_cons_of_mem _ (List.mem_append_left _ (List.mem_of_getElem? (i := 5) rfl))) dX12_toldWord_16 ?_
    refine g_aload_n hk dX12_toldWord_19 rfl ?_
    refine gM_i4 (v := (I26189 4)) hk hin12 (List.mem_cons_of_mem _ (List.mem_append_left _ (List.mem_of_getElem? (i := 6) rfl))) dX12_toldWord_20 rfl ?_
    refine lM_2 (v := (A 2 (I26189 4).toNatClampNeg)) hk (vp_in_iff.mpr ⟨by omega, by omega⟩) (congrFun (hA26189 2 rfl) _) dX12_toldWord_23 ?_
    refine g_iload_n hk dX12_toldWord_24 rfl ?_
    have b26200l := Int32.le_toInt (A 2 (I26189 4).toNatClampNeg)
    have b26200h := Int32.toInt_lt (A 2 (I26189 4).toNatClampNeg)
    have b26201l := Int32.le_toInt z1
    have b26201h := Int32.toInt_lt z1
    refine g_isub hk dX12_toldWord_25 ?_
    refine g_topi (fun y26202 ey26202 => ?_)
    replace hF := FE.lt hF ey26202
    have hy26202 := i32_sub0 ey26202
    refine g_istore_n (lv' := [(3, .int y26202), (0, .ref (r 0)), (1, .int z1), (2, .int z2)]) hk dX12_toldWord_26 (by decide) rfl ?_
    refine g_iload_n hk dX12_toldWord_27 rfl ?_
    have b26203l := Int32.le_toInt y26202
    have b26203h := Int32.toInt_lt y26202
    refine g_if_lt (tgt := 36) (a := y26202.toInt) hk dX12_toldWord_28 (by decide) rfl (fun c26204 => ?_) (fun c26204 => ?_)
    · skip
      replace hF := FE.pos hF c26204
      refine g_aload_n hk dX12_toldWord_36 rfl ?_
      refine g_iconst (v := 1) hk dX12_toldWord_37 (by decide) ?_
      have k26205 : (1 : Int32).toInt = 1 := rfl
      refine g_callV (n := 1) hk (j128_X12_fail l D zt r g I26189 A26189 L26189 1 hV26189 (by decide) (by decide)) (SP.same _) (fun _ h => h) (gi_V (List.mem_cons_of_mem _ (List.mem_append_left _ (List.mem_of_getElem? (i := 7) rfl))) (List.mem_cons_of_mem _ (List.mem_append_left _ (List.mem_of_getElem? (i := 8) rfl))) (List.mem_cons_of_mem _ (List.mem_append_left _ (List.mem_of_getElem? (i := 9) rfl))) (List.mem_cons_of_mem _ (List.mem_append_left _ (List.mem_of_getElem? (i := 3) rfl))) (gi_sub (fun w h => (List.mem_cons_of_mem _ (List.mem_append_right _ (List.mem_append_right _ (List.mem_append_right _ (List.mem_append_left _ h)))))) zg_j128_X12_fail)) rfl rfl rfl (by decide +kernel) ⟨Nat.le_of_ble_eq_true rfl, Nat.le_of_ble_eq_true rfl⟩ 0 rfl rfl rfl rfl (Nat.le_of_ble_eq_true rfl) ⟨Nat.le_of_ble_eq_true rfl, Nat.le_of_ble_eq_true rfl⟩ dX12_toldWord_38 (fun v ty' w' hp hk' => ?_)
      obtain ⟨I26207, A26207, L26207, hI26207, hA26207, hV26207, r26208, r26209, r26210, hL26207, hC, rfl, rfl⟩ := hp
      replace hF := FE.bdM hF hC
      have f26211 := IvM_f6 hV26207
      rw [show (I26189 8) = (I 8) from (hI26189 8 rfl), show (I26207 8) = (I 8) from ((hI26207 8 rfl).trans (hI26189 8 rfl))] at r26209
      show GW κ 4 0 0 (wM r g I26207 A26207 L26207) 41 [(3, .int y26202), (0, .ref (r 0)), (1, .int z1), (2, .int z2)] []
      refine g_aload_n hk dX12_toldWord_41 rfl ?_
      refine gM_i6 (v := (I26207 6)) hk hin12 (List.mem_cons_of_mem _ (List.mem_append_left _ (List.mem_of_getElem? (i := 4) rfl))) dX12_toldWord_42 rfl ?_
      refine g_if_ne (tgt := 52) (a := (I26207 6).toInt) hk dX12_toldWord_45 (by decide) rfl (fun c26212 => ?_) (fun c26212 => ?_)
      · skip
        replace hF := FE.pos hF c26212
        refine g_aload_n hk dX12_toldWord_52 rfl ?_
        refine g_iconst (v := 4) hk dX12_toldWord_53 (by decide) ?_
        have k26213 : (4 : Int32).toInt = 4 := rfl
        refine g_callV (n := 1) hk (j131_X12_must l D zt r g I26207 A26207 L26207 4 hV26207) (SP.same _) (fun _ h => h) (gi_V (List.mem_cons_of_mem _ (List.mem_append_left _ (List.mem_of_getElem? (i := 10) rfl))) (List.mem_cons_of_mem _ (List.mem_append_left _ (List.mem_of_getElem? (i := 11) rfl))) (List.mem_cons_of_mem _ (List.mem_append_left _ (List.mem_of_getElem? (i := 12) rfl))) (List.mem_cons_of_mem _ (List.mem_append_left _ (List.mem_of_getElem? (i := 3) rfl))) (gi_sub (fun w h => (List.mem_cons_of_mem _ (List.mem_append_right _ (List.mem_append_right _ (List.mem_append_right _ (List.mem_append_right _ (List.mem_append_left _ h))))))) zg_j131_X12_must)) rfl rfl rfl (by decide +kernel) ⟨Nat.le_of_ble_eq_true rfl, Nat.le_of_ble_eq_true rfl⟩ 0 rfl rfl rfl rfl (Nat.le_of_ble_eq_true rfl) ⟨Nat.le_of_ble_eq_true rfl, Nat.le_of_ble_eq_true rfl⟩ dX12_toldWord_54 (fun v ty' w' hp hk' => ?_)
        obtain ⟨I26215, A26215, L26215, hI26215, hA26215, hV26215, r26216, r26217, r26218, r26219, r26220, hL26215, hC, rfl, rfl⟩ := hp
        replace hF := FE.bdM hF hC
        have f26221 := IvM_f4 hV26215
        rw [show (I26207 4) = (I26189 4) from (hI26207 4 rfl)] at r26216
        have f26222 := IvM_f6 hV26215
        rw [show (I26207 8) = (I 8) from ((hI26207 8 rfl).trans (hI26189 8 rfl)), show (I26215 8) = (I 8) from ((hI26215 8 rfl).trans ((hI26207 8 rfl).trans (hI26189 8 rfl)))] at r26218
        rw [show (I26207 4) = (I26189 4) from (hI26207 4 rfl)] at r26219
        rw [show (A26207 2 (I26207 4).toNatClampNeg) = (A 2 (I26189 4).toNatClampNeg) from (by rw [show I26207 4 = (I26189 4) from (hI26207 4 rfl)]; exact ((congrFun (hA26207 2 rfl) _).trans (congrFun (hA26189 2 rfl) _)))] at r26220
        show GW κ 4 0 0 (wM r g I26215 A26215 L26215) 57 [(3, .int y26202), (0, .ref (r 0)), (1, .int z1), (2, .int z2)] []
        refine g_iload_n hk dX12_toldWord_57 rfl ?_
        exact g_iret hk hR rfl ⟨I26215, A26215, L26215, (show Md [4, 6, 7, 12] I I26215 from (Md.tr (Md.tr (Md.tr Md.rf hI26189 rfl) hI26207 rfl) hI26215 rfl)), (show Md [] A A26215 from (Md.tr (Md.tr (Md.tr Md.rf hA26189 rfl) hA26207 rfl) hA26215 rfl)), hV26215, y26202, (by omega), (by omega), (by rw [show (I26215 8) = (I 8) from ((hI26215 8 rfl).trans ((hI26207 8 rfl).trans (hI26189 8 rfl)))] <;> omega), (by omega), (show L26215 = L from (hL26215.trans (hL26207.trans hL26189))), hF, rfl, rfl⟩ dX12_toldWord_58
      · skip
        replace hF := FE.neg hF c26212
        refine g_aload_n hk dX12_toldWord_48 rfl ?_
        refine g_callV (n := 0) hk (j127_X12_goesOn l D zt r g I26207 A26207 L26207  hV26207) (SP.same _) (fun _ h => h) (gi_V (List.mem_cons_of_mem _ (List.mem_append_left _ (List.mem_of_getElem? (i := 0) rfl))) (List.mem_cons_of_mem _ (List.mem_append_left _ (List.mem_of_getElem? (i := 1) rfl))) (List.mem_cons_of_mem _ (List.mem_append_left _ (List.mem_of_getElem? (i := 2) rfl))) (List.mem_cons_of_mem _ (List.mem_append_left _ (List.mem_of_getElem? (i := 3) rfl))) (gi_sub (fun w h => (List.mem_cons_of_mem _ (List.mem_append_right _ (List.mem_append_right _ (List.mem_append_left _ h))))) zg_j127_X12_goesOn)) rfl rfl rfl (by decide +kernel) ⟨Nat.le_of_ble_eq_true rfl, Nat.le_of_ble_eq_true rfl⟩ 0 rfl rfl rfl rfl (Nat.le_of_ble_eq_true rfl) ⟨Nat.le_of_ble_eq_true rfl, Nat.le_of_ble_eq_true rfl⟩ dX12_toldWord_49 (fun v ty' w' hp hk' => ?_)
        obtain ⟨I26224, A26224, L26224, hI26224, hA26224, hV26224, r26225, r26226, r26227, r26228, hL26224, hC, rfl, rfl⟩ := hp
        replace hF := FE.bdM hF hC
        have f26229 := IvM_f4 hV26224
        rw [show (I26207 4) = (I26189 4) from (hI26207 4 rfl)] at r26225
        have f26230 := IvM_f6 hV26224
        rw [show (I26207 8) = (I 8) from ((hI26207 8 rfl).trans (hI26189 8 rfl)), show (I26224 8) = (I 8) from ((hI26224 8 rfl).trans ((hI26207 8 rfl).trans (hI26189 8 rfl)))] at r26227
        rw [show (I26207 4) = (I26189 4) from (hI26207 4 rfl)] at r26228
        show GW κ 4 0 0 (wM r g I26224 A26224 L26224) 52 [(3, .int y26202), (0, .ref (r 0)), (1, .int z1), (2, .int z2)] []
        refine g_aload_n hk dX12_toldWord_52 rfl ?_
        refine g_iconst (v := 4) hk dX12_toldWord_53 (by decide) ?_
        have k26231 : (4 : Int32).toInt = 4 := rfl
        refine g_callV (n := 1) hk (j131_X12_must l D zt r g I26224 A26224 L26224 4 hV26224) (SP.same _) (fun _ h => h) (gi_V (List.mem_cons_of_mem _ (List.mem_append_left _ (List.mem_of_getElem? (i := 10) rfl))) (List.mem_cons_of_mem _ (List.mem_append_left _ (List.mem_of_getElem? (i := 11) rfl))) (List.mem_cons_of_mem _ (List.mem_append_left _ (List.mem_of_getElem? (i := 12) rfl))) (List.mem_cons_of_mem _ (List.mem_append_left _ (List.mem_of_getElem? (i := 3) rfl))) (gi_sub (fun w h => (List.mem_cons_of_mem _ (List.mem_append_right _ (List.mem_append_right _ (List.mem_append_right _ (List.mem_append_right _ (List.mem_append_left _ h))))))) zg_j131_X12_must)) rfl rfl rfl (by decide +kernel) ⟨Nat.le_of_ble_eq_true rfl, Nat.le_of_ble_eq_true rfl⟩ 0 rfl rfl rfl rfl (Nat.le_of_ble_eq_true rfl) ⟨Nat.le_of_ble_eq_true rfl, Nat.le_of_ble_eq_true rfl⟩ dX12_toldWord_54 (fun v ty' w' hp hk' => ?_)
        obtain ⟨I26233, A26233, L26233, hI26233, hA26233, hV26233, r26234, r26235, r26236, r26237, r26238, hL26233, hC, rfl, rfl⟩ := hp
        replace hF := FE.bdM hF hC
        have f26239 := IvM_f4 hV26233
        have f26240 := IvM_f6 hV26233
        rw [show (I26224 8) = (I 8) from ((hI26224 8 rfl).trans ((hI26207 8 rfl).trans (hI26189 8 rfl))), show (I26233 8) = (I 8) from ((hI26233 8 rfl).trans ((hI26224 8 rfl).trans ((hI26207 8 rfl).trans (hI26189 8 rfl))))] at r26236
        rw [show (A26224 2 (I26224 4).toNatClampNeg) = (A 2 (I26224 4).toNatClampNeg) from ((congrFun (hA26224 2 rfl) _).trans ((congrFun (hA26207 2 rfl) _).trans (congrFun (hA26189 2 rfl) _)))] at r26238
        show GW κ 4 0 0 (wM r g I26233 A26233 L26233) 57 [(3, .int y26202), (0, .ref (r 0)), (1, .int z1), (2, .int z2)] []
        refine g_iload_n hk dX12_toldWord_57 rfl ?_
        exact g_iret hk hR rfl ⟨I26233, A26233, L26233, (show Md [4, 6, 7, 12] I I26233 from (Md.tr (Md.tr (Md.tr (Md.tr Md.rf hI26189 rfl) hI26207 rfl) hI26224 rfl) hI26233 rfl)), (show Md [] A A26233 from (Md.tr (Md.tr (Md.tr (Md.tr Md.rf hA26189 rfl) hA26207 rfl) hA26224 rfl) hA26233 rfl)), hV26233, y26202, (by omega), (by omega), (by rw [show (I26233 8) = (I 8) from ((hI26233 8 rfl).trans ((hI26224 8 rfl).trans ((hI26207 8 rfl).trans (hI26189 8 rfl))))] <;> omega), (by omega), (show L26233 = L from (hL26233.trans (hL26224.trans (hL26207.trans hL26189)))), hF, rfl, rfl⟩ dX12_toldWord_58
    · skip
      replace hF := FE.neg hF c26204
      refine g_iload_n hk dX12_toldWord_31 rfl ?_
      refine g_iload_n hk dX12_toldWord_32 rfl ?_
      have b26241l := Int32.le_toInt z2
      have b26241h := Int32.toInt_lt z2
      refine g_icmp_lt (tgt := 41) (a := y26202.toInt) (b := z2.toInt) hk dX12_toldWord_33 (by decide) rfl rfl (fun c26242 => ?_) (fun c26242 => ?_)
      · skip
        replace hF := FE.pos hF c26242
        refine g_aload_n hk dX12_toldWord_41 rfl ?_
        refine gM_i6 (v := (I26189 6)) hk hin12 (List.mem_cons_of_mem _ (List.mem_append_left _ (List.mem_of_getElem? (i := 4) rfl))) dX12_toldWord_42 rfl ?_
        refine g_if_ne (tgt := 52) (a := (I26189 6).toInt) hk dX12_toldWord_45 (by decide) rfl (fun z9 => absurd z9 (show ¬ ((I26189 6).toInt ≠ 0) from by omega)) (fun _ => ?_)
        refine g_aload_n hk dX12_toldWord_48 rfl ?_
        refine g_callV (n := 0) hk (j127_X12_goesOn l D zt r g I26189 A26189 L26189  hV26189) (SP.same _) (fun _ h => h) (gi_V (List.mem_cons_of_mem _ (List.mem_append_left _ (List.mem_of_getElem? (i := 0) rfl))) (List.mem_cons_of_mem _ (List.mem_append_left _ (List.mem_of_getElem? (i := 1) rfl))) (List.mem_cons_of_mem _ (List.mem_append_left _ (List.mem_of_getElem? (i := 2) rfl))) (List.mem_cons_of_mem _ (List.mem_append_left _ (List.mem_of_getElem? (i := 3) rfl))) (gi_sub (fun w h => (List.mem_cons_of_mem _ (List.mem_append_right _ (List.mem_append_right _ (List.mem_append_left _ h))))) zg_j127_X12_goesOn)) rfl rfl rfl (by decide +kernel) ⟨Nat.le_of_ble_eq_true rfl, Nat.le_of_ble_eq_true rfl⟩ 0 rfl rfl rfl rfl (Nat.le_of_ble_eq_true rfl) ⟨Nat.le_of_ble_eq_true rfl, Nat.le_of_ble_eq_true rfl⟩ dX12_toldWord_49 (fun v ty' w' hp hk' => ?_)
        obtain ⟨I26244, A26244, L26244, hI26244, hA26244, hV26244, r26245, r26246, r26247, r26248, hL26244, hC, rfl, rfl⟩ := hp
        replace hF := FE.bdM hF hC
        have f26249 := IvM_f4 hV26244
        have f26250 := IvM_f6 hV26244
        rw [show (I26189 8) = (I 8) from (hI26189 8 rfl), show (I26244 8) = (I 8) from ((hI26244 8 rfl).trans (hI26189 8 rfl))] at r26247
        show GW κ 4 0 0 (wM r g I26244 A26244 L26244) 52 [(3, .int y26202), (0, .ref (r 0)), (1, .int z1), (2, .int z2)] []
        refine g_aload_n hk dX12_toldWord_52 rfl ?_
        refine g_iconst (v := 4) hk dX12_toldWord_53 (by decide) ?_
        have k26251 : (4 : Int32).toInt = 4 := rfl
        refine g_callV (n := 1) hk (j131_X12_must l D zt r g I26244 A26244 L26244 4 hV26244) (SP.same _) (fun _ h => h) (gi_V (List.mem_cons_of_mem _ (List.mem_append_left _ (List.mem_of_getElem? (i := 10) rfl))) (List.mem_cons_of_mem _ (List.mem_append_left _ (List.mem_of_getElem? (i := 11) rfl))) (List.mem_cons_of_mem _ (List.mem_append_left _ (List.mem_of_getElem? (i := 12) rfl))) (List.mem_cons_of_mem _ (List.mem_append_left _ (List.mem_of_getElem? (i := 3) rfl))) (gi_sub (fun w h => (List.mem_cons_of_mem _ (List.mem_append_right _ (List.mem_append_right _ (List.mem_append_right _ (List.mem_append_right _ (List.mem_append_left _ h))))))) zg_j131_X12_must)) rfl rfl rfl (by decide +kernel) ⟨Nat.le_of_ble_eq_true rfl, Nat.le_of_ble_eq_true rfl⟩ 0 rfl rfl rfl rfl (Nat.le_of_ble_eq_true rfl) ⟨Nat.le_of_ble_eq_true rfl, Nat.le_of_ble_eq_true rfl⟩ dX12_toldWord_54 (fun v ty' w' hp hk' => ?_)
        obtain ⟨I26253, A26253, L26253, hI26253, hA26253, hV26253, r26254, r26255, r26256, r26257, r26258, hL26253, hC, rfl, rfl⟩ := hp
        replace hF := FE.bdM hF hC
        have f26259 := IvM_f4 hV26253
        have f26260 := IvM_f6 hV26253
        rw [show (I26244 8) = (I 8) from ((hI26244 8 rfl).trans (hI26189 8 rfl)), show (I26253 8) = (I 8) from ((hI26253 8 rfl).trans ((hI26244 8 rfl).trans (hI26189 8 rfl)))] at r26256
        rw [show (A26244 2 (I26244 4).toNatClampNeg) = (A 2 (I26244 4).toNatClampNeg) from ((congrFun (hA26244 2 rfl) _).trans (congrFun (hA26189 2 rfl) _))] at r26258
        show GW κ 4 0 0 (wM r g I26253 A26253 L26253) 57 [(3, .int y26202), (0, .ref (r 0)), (1, .int z1), (2, .int z2)] []
        refine g_iload_n hk dX12_toldWord_57 rfl ?_
        exact g_iret hk hR rfl ⟨I26253, A26253, L26253, (show Md [4, 6, 7, 12] I I26253 from (Md.tr (Md.tr (Md.tr Md.rf hI26189 rfl) hI26244 rfl) hI26253 rfl)), (show Md [] A A26253 from (Md.tr (Md.tr (Md.tr Md.rf hA26189 rfl) hA26244 rfl) hA26253 rfl)), hV26253, y26202, (by omega), (by omega), (by rw [show (I26253 8) = (I 8) from ((hI26253 8 rfl).trans ((hI26244 8 rfl).trans (hI26189 8 rfl)))] <;> omega), (by omega), (show L26253 = L from (hL26253.trans (hL26244.trans hL26189))), hF, rfl, rfl⟩ dX12_toldWord_58
      · skip
        replace hF := FE.neg hF c26242
        refine g_aload_n hk dX12_toldWord_36 rfl ?_
        refine g_iconst (v := 1) hk dX12_toldWord_37 (by decide) ?_
        have k26261 : (1 : Int32).toInt = 1 := rfl
        refine g_callV (n := 1) hk (j128_X12_fail l D zt r g I26189 A26189 L26189 1 hV26189 (by decide) (by decide)) (SP.same _) (fun _ h => h) (gi_V (List.mem_cons_of_mem _ (List.mem_append_left _ (List.mem_of_getElem? (i := 7) rfl))) (List.mem_cons_of_mem _ (List.mem_append_left _ (List.mem_of_getElem? (i := 8) rfl))) (List.mem_cons_of_mem _ (List.mem_append_left _ (List.mem_of_getElem? (i := 9) rfl))) (List.mem_cons_of_mem _ (List.mem_append_left _ (List.mem_of_getElem? (i := 3) rfl))) (gi_sub (fun w h => (List.mem_cons_of_mem _ (List.mem_append_right _ (List.mem_append_right _ (List.mem_append_right _ (List.mem_append_left _ h)))))) zg_j128_X12_fail)) rfl rfl rfl (by decide +kernel) ⟨Nat.le_of_ble_eq_true rfl, Nat.le_of_ble_eq_true rfl⟩ 0 rfl rfl rfl rfl (Nat.le_of_ble_eq_true rfl) ⟨Nat.le_of_ble_eq_true rfl, Nat.le_of_ble_eq_true rfl⟩ dX12_toldWord_38 (fun v ty' w' hp hk' => ?_)
        obtain ⟨I26263, A26263, L26263, hI26263, hA26263, hV26263, r26264, r26265, r26266, hL26263, hC, rfl, rfl⟩ := hp
        replace hF := FE.bdM hF hC
        have f26267 := IvM_f6 hV26263
        rw [show (I26189 8) = (I 8) from (hI26189 8 rfl), show (I26263 8) = (I 8) from ((hI26263 8 rfl).trans (hI26189 8 rfl))] at r26265
        show GW κ 4 0 0 (wM r g I26263 A26263 L26263) 41 [(3, .int y26202), (0, .ref (r 0)), (1, .int z1), (2, .int z2)] []
        refine g_aload_n hk dX12_toldWord_41 rfl ?_
        refine gM_i6 (v := (I26263 6)) hk hin12 (List.mem_cons_of_mem _ (List.mem_append_left _ (List.mem_of_getElem? (i := 4) rfl))) dX12_toldWord_42 rfl ?_
        refine g_if_ne (tgt := 52) (a := (I26263 6).toInt) hk dX12_toldWord_45 (by decide) rfl (fun c26268 => ?_) (fun c26268 => ?_)
        · skip
          replace hF := FE.pos hF c26268
          refine g_aload_n hk dX12_toldWord_52 rfl ?_
          refine g_iconst (v := 4) hk dX12_toldWord_53 (by decide) ?_
          have k26269 : (4 : Int32).toInt = 4 := rfl
          refine g_callV (n := 1) hk (j131_X12_must l D zt r g I26263 A26263 L26263 4 hV26263) (SP.same _) (fun _ h => h) (gi_V (List.mem_cons_of_mem _ (List.mem_append_left _ (List.mem_of_getElem? (i := 10) rfl))) (List.mem_cons_of_mem _ (List.mem_append_left _ (List.mem_of_getElem? (i := 11) rfl))) (List.mem_cons_of_mem _ (List.mem_append_left _ (List.mem_of_getElem? (i := 12) rfl))) (List.mem_cons_of_mem _ (List.mem_append_left _ (List.mem_of_getElem? (i := 3) rfl))) (gi_sub (fun w h => (List.mem_cons_of_mem _ (List.mem_append_right _ (List.mem_append_right _ (List.mem_append_right _ (List.mem_append_right _ (List.mem_append_left _ h))))))) zg_j131_X12_must)) rfl rfl rfl (by decide +kernel) ⟨Nat.le_of_ble_eq_true rfl, Nat.le_of_ble_eq_true rfl⟩ 0 rfl rfl rfl rfl (Nat.le_of_ble_eq_true rfl) ⟨Nat.le_of_ble_eq_true rfl, Nat.le_of_ble_eq_true rfl⟩ dX12_toldWord_54 (fun v ty' w' hp hk' => ?_)
          obtain ⟨I26271, A26271, L26271, hI26271, hA26271, hV26271, r26272, r26273, r26274, r26275, r26276, hL26271, hC, rfl, rfl⟩ := hp
          replace hF := FE.bdM hF hC
          have f26277 := IvM_f4 hV26271
          rw [show (I26263 4) = (I26189 4) from (hI26263 4 rfl)] at r26272
          have f26278 := IvM_f6 hV26271
          rw [show (I26263 8) = (I 8) from ((hI26263 8 rfl).trans (hI26189 8 rfl)), show (I26271 8) = (I 8) from ((hI26271 8 rfl).trans ((hI26263 8 rfl).trans (hI26189 8 rfl)))] at r26274
          rw [show (I26263 4) = (I26189 4) from (hI26263 4 rfl)] at r26275
          rw [show (A26263 2 (I26263 4).toNatClampNeg) = (A 2 (I26189 4).toNatClampNeg) from (by rw [show I26263 4 = (I26189 4) from (hI26263 4 rfl)]; exact ((congrFun (hA26263 2 rfl) _).trans (congrFun (hA26189 2 rfl) _)))] at r26276
          show GW κ 4 0 0 (wM r g I26271 A26271 L26271) 57 [(3, .int y26202), (0, .ref (r 0)), (1, .int z1), (2, .int z2)] []
          refine g_iload_n hk dX12_toldWord_57 rfl ?_
          exact g_iret hk hR rfl ⟨I26271, A26271, L26271, (show Md [4, 6, 7, 12] I I26271 from (Md.tr (Md.tr (Md.tr Md.rf hI26189 rfl) hI26263 rfl) hI26271 rfl)), (show Md [] A A26271 from (Md.tr (Md.tr (Md.tr Md.rf hA26189 rfl) hA26263 rfl) hA26271 rfl)), hV26271, y26202, (by omega), (by omega), (by rw [show (I26271 8) = (I 8) from ((hI26271 8 rfl).trans ((hI26263 8 rfl).trans (hI26189 8 rfl)))] <;> omega), (by omega), (show L26271 = L from (hL26271.trans (hL26263.trans hL26189))), hF, rfl, rfl⟩ dX12_toldWord_58
        · skip
          replace hF := FE.neg hF c26268
          refine g_aload_n hk dX12_toldWord_48 rfl ?_
          refine g_callV (n := 0) hk (j127_X12_goesOn l D zt r g I26263 A26263 L26263  hV26263) (SP.same _) (fun _ h => h) (gi_V (List.mem_cons_of_mem _ (List.mem_append_left _ (List.mem_of_getElem? (i := 0) rfl))) (List.mem_cons_of_mem _ (List.mem_append_left _ (List.mem_of_getElem? (i := 1) rfl))) (List.mem_cons_of_mem _ (List.mem_append_left _ (List.mem_of_getElem? (i := 2) rfl))) (List.mem_cons_of_mem _ (List.mem_append_left _ (List.mem_of_getElem? (i := 3) rfl))) (gi_sub (fun w h => (List.mem_cons_of_mem _ (List.mem_append_right _ (List.mem_append_right _ (List.mem_append_left _ h))))) zg_j127_X12_goesOn)) rfl rfl rfl (by decide +kernel) ⟨Nat.le_of_ble_eq_true rfl, Nat.le_of_ble_eq_true rfl⟩ 0 rfl rfl rfl rfl (Nat.le_of_ble_eq_true rfl) ⟨Nat.le_of_ble_eq_true rfl, Nat.le_of_ble_eq_true rfl⟩ dX12_toldWord_49 (fun v ty' w' hp hk' => ?_)
          obtain ⟨I26280, A26280, L26280, hI26280, hA26280, hV26280, r26281, r26282, r26283, r26284, hL26280, hC, rfl, rfl⟩ := hp
          replace hF := FE.bdM hF hC
          have f26285 := IvM_f4 hV26280
          rw [show (I26263 4) = (I26189 4) from (hI26263 4 rfl)] at r26281
          have f26286 := IvM_f6 hV26280
          rw [show (I26263 8) = (I 8) from ((hI26263 8 rfl).trans (hI26189 8 rfl)), show (I26280 8) = (I 8) from ((hI26280 8 rfl).trans ((hI26263 8 rfl).trans (hI26189 8 rfl)))] at r26283
          rw [show (I26263 4) = (I26189 4) from (hI26263 4 rfl)] at r26284
          show GW κ 4 0 0 (wM r g I26280 A26280 L26280) 52 [(3, .int y26202), (0, .ref (r 0)), (1, .int z1), (2, .int z2)] []
          refine g_aload_n hk dX12_toldWord_52 rfl ?_
          refine g_iconst (v := 4) hk dX12_toldWord_53 (by decide) ?_
          have k26287 : (4 : Int32).toInt = 4 := rfl
          refine g_callV (n := 1) hk (j131_X12_must l D zt r g I26280 A26280 L26280 4 hV26280) (SP.same _) (fun _ h => h) (gi_V (List.mem_cons_of_mem _ (List.mem_append_left _ (List.mem_of_getElem? (i := 10) rfl))) (List.mem_cons_of_mem _ (List.mem_append_left _ (List.mem_of_getElem? (i := 11) rfl))) (List.mem_cons_of_mem _ (List.mem_append_left _ (List.mem_of_getElem? (i := 12) rfl))) (List.mem_cons_of_mem _ (List.mem_append_left _ (List.mem_of_getElem? (i := 3) rfl))) (gi_sub (fun w h => (List.mem_cons_of_mem _ (List.mem_append_right _ (List.mem_append_right _ (List.mem_append_right _ (List.mem_append_right _ (List.mem_append_left _ h))))))) zg_j131_X12_must)) rfl rfl rfl (by decide +kernel) ⟨Nat.le_of_ble_eq_true rfl, Nat.le_of_ble_eq_true rfl⟩ 0 rfl rfl rfl rfl (Nat.le_of_ble_eq_true rfl) ⟨Nat.le_of_ble_eq_true rfl, Nat.le_of_ble_eq_true rfl⟩ dX12_toldWord_54 (fun v ty' w' hp hk' => ?_)
          obtain ⟨I26289, A26289, L26289, hI26289, hA26289, hV26289, r26290, r26291, r26292, r26293, r26294, hL26289, hC, rfl, rfl⟩ := hp
          replace hF := FE.bdM hF hC
          have f26295 := IvM_f4 hV26289
          have f26296 := IvM_f6 hV26289
          rw [show (I26280 8) = (I 8) from ((hI26280 8 rfl).trans ((hI26263 8 rfl).trans (hI26189 8 rfl))), show (I26289 8) = (I 8) from ((hI26289 8 rfl).trans ((hI26280 8 rfl).trans ((hI26263 8 rfl).trans (hI26189 8 rfl))))] at r26292
          rw [show (A26280 2 (I26280 4).toNatClampNeg) = (A 2 (I26280 4).toNatClampNeg) from ((congrFun (hA26280 2 rfl) _).trans ((congrFun (hA26263 2 rfl) _).trans (congrFun (hA26189 2 rfl) _)))] at r26294
          show GW κ 4 0 0 (wM r g I26289 A26289 L26289) 57 [(3, .int y26202), (0, .ref (r 0)), (1, .int z1), (2, .int z2)] []
          refine g_iload_n hk dX12_toldWord_57 rfl ?_
          exact g_iret hk hR rfl ⟨I26289, A26289, L26289, (show Md [4, 6, 7, 12] I I26289 from (Md.tr (Md.tr (Md.tr (Md.tr Md.rf hI26189 rfl) hI26263 rfl) hI26280 rfl) hI26289 rfl)), (show Md [] A A26289 from (Md.tr (Md.tr (Md.tr (Md.tr Md.rf hA26189 rfl) hA26263 rfl) hA26280 rfl) hA26289 rfl)), hV26289, y26202, (by omega), (by omega), (by rw [show (I26289 8) = (I 8) from ((hI26289 8 rfl).trans ((hI26280 8 rfl).trans ((hI26263 8 rfl).trans (hI26189 8 rfl))))] <;> omega), (by omega), (show L26289 = L from (hL26289.trans (hL26280.trans (hL26263.trans hL26189)))), hF, rfl, rfl⟩ dX12_toldWord_58
  · skip
    replace hF := FE.neg hF c26199
    refine g_iconst (v := (-1)) hk dX12_toldWord_11 (by decide) ?_
    refine g_goto (tgt := 26) hk dX12_toldWord_12 (by decide) ?_
    refine g_istore_n (lv' := [(3, .int (-1)), (0, .ref (r 0)), (1, .int z1), (2, .int z2)]) hk dX12_toldWord_26 (by decide) rfl ?_
    refine g_iload_n hk dX12_toldWord_27 rfl ?_
    refine g_if_lt (tgt := 36) (a := (-1)) hk dX12_toldWord_28 (by decide) rfl (fun _ => ?_) (fun z9 => absurd (show ((-1) : Int) < (0 : Int) from by decide) z9)
    refine g_aload_n hk dX12_toldWord_36 rfl ?_
    refine g_iconst (v := 1) hk dX12_toldWord_37 (by decide) ?_
    have k26297 : (1 : Int32).toInt = 1 := rfl
    refine g_callV (n := 1) hk (j128_X12_fail l D zt r g I26189 A26189 L26189 1 hV26189 (by decide) (by decide)) (SP.same _) (fun _ h => h) (gi_V (List.mem_cons_of_mem _ (List.mem_append_left _ (List.mem_of_getElem? (i := 7) rfl))) (List.mem_cons_of_mem _ (List.mem_append_left _ (List.mem_of_getElem? (i := 8) rfl))) (List.mem_cons_of_mem _ (List.mem_append_left _ (List.mem_of_getElem? (i := 9) rfl))) (List.mem_cons_of_mem _ (List.mem_append_left _ (List.mem_of_getElem? (i := 3) rfl))) (gi_sub (fun w h => (List.mem_cons_of_mem _ (List.mem_append_right _ (List.mem_append_right _ (List.mem_append_right _ (List.mem_append_left _ h)))))) zg_j128_X12_fail)) rfl rfl rfl (by decide +kernel) ⟨Nat.le_of_ble_eq_true rfl, Nat.le_of_ble_eq_true rfl⟩ 0 rfl rfl rfl rfl (Nat.le_of_ble_eq_true rfl) ⟨Nat.le_of_ble_eq_true rfl, Nat.le_of_ble_eq_true rfl⟩ dX12_toldWord_38 (fun v ty' w' hp hk' => ?_)
    obtain ⟨I26299, A26299, L26299, hI26299, hA26299, hV26299, r26300, r26301, r26302, hL26299, hC, rfl, rfl⟩ := hp
    replace hF := FE.bdM hF hC
    have f26303 := IvM_f6 hV26299
    rw [show (I26189 8) = (I 8) from (hI26189 8 rfl), show (I26299 8) = (I 8) from ((hI26299 8 rfl).trans (hI26189 8 rfl))] at r26301
    show GW κ 4 0 0 (wM r g I26299 A26299 L26299) 41 [(3, .int (-1)), (0, .ref (r 0)), (1, .int z1), (2, .int z2)] []
    refine g_aload_n hk dX12_toldWord_41 rfl ?_
    refine gM_i6 (v := (I26299 6)) hk hin12 (List.mem_cons_of_mem _ (List.mem_append_left _ (List.mem_of_getElem? (i := 4) rfl))) dX12_toldWord_42 rfl ?_
    refine g_if_ne (tgt := 52) (a := (I26299 6).toInt) hk dX12_toldWord_45 (by decide) rfl (fun c26304 => ?_) (fun c26304 => ?_)
    · skip
      replace hF := FE.pos hF c26304
      refine g_aload_n hk dX12_toldWord_52 rfl ?_
      refine g_iconst (v := 4) hk dX12_toldWord_53 (by decide) ?_
      have k26305 : (4 : Int32).toInt = 4 := rfl
      refine g_callV (n := 1) hk (j131_X12_must l D zt r g I26299 A26299 L26299 4 hV26299) (SP.same _) (fun _ h => h) (gi_V (List.mem_cons_of_mem _ (List.mem_append_left _ (List.mem_of_getElem? (i := 10) rfl))) (List.mem_cons_of_mem _ (List.mem_append_left _ (List.mem_of_getElem? (i := 11) rfl))) (List.mem_cons_of_mem _ (List.mem_append_left _ (List.mem_of_getElem? (i := 12) rfl))) (List.mem_cons_of_mem _ (List.mem_append_left _ (List.mem_of_getElem? (i := 3) rfl))) (gi_sub (fun w h => (List.mem_cons_of_mem _ (List.mem_append_right _ (List.mem_append_right _ (List.mem_append_right _ (List.mem_append_right _ (List.mem_append_left _ h))))))) zg_j131_X12_must)) rfl rfl rfl (by decide +kernel) ⟨Nat.le_of_ble_eq_true rfl, Nat.le_of_ble_eq_true rfl⟩ 0 rfl rfl rfl rfl (Nat.le_of_ble_eq_true rfl) ⟨Nat.le_of_ble_eq_true rfl, Nat.le_of_ble_eq_true rfl⟩ dX12_toldWord_54 (fun v ty' w' hp hk' => ?_)
      obtain ⟨I26307, A26307, L26307, hI26307, hA26307, hV26307, r26308, r26309, r26310, r26311, r26312, hL26307, hC, rfl, rfl⟩ := hp
      replace hF := FE.bdM hF hC
      have f26313 := IvM_f4 hV26307
      rw [show (I26299 4) = (I26189 4) from (hI26299 4 rfl)] at r26308
      have f26314 := IvM_f6 hV26307
      rw [show (I26299 8) = (I 8) from ((hI26299 8 rfl).trans (hI26189 8 rfl)), show (I26307 8) = (I 8) from ((hI26307 8 rfl).trans ((hI26299 8 rfl).trans (hI26189 8 rfl)))] at r26310
      rw [show (I26299 4) = (I26189 4) from (hI26299 4 rfl)] at r26311
      rw [show (A26299 2 (I26299 4).toNatClampNeg) = (A 2 (I26189 4).toNatClampNeg) from (by rw [show I26299 4 = (I26189 4) from (hI26299 4 rfl)]; exact ((congrFun (hA26299 2 rfl) _).trans (congrFun (hA26189 2 rfl) _)))] at r26312
      show GW κ 4 0 0 (wM r g I26307 A26307 L26307) 57 [(3, .int (-1)), (0, .ref (r 0)), (1, .int z1), (2, .int z2)] []
      refine g_iload_n hk dX12_toldWord_57 rfl ?_
      exact g_iret hk hR rfl ⟨I26307, A26307, L26307, (show Md [4, 6, 7, 12] I I26307 from (Md.tr (Md.tr (Md.tr Md.rf hI26189 rfl) hI26299 rfl) hI26307 rfl)), (show Md [] A A26307 from (Md.tr (Md.tr (Md.tr Md.rf hA26189 rfl) hA26299 rfl) hA26307 rfl)), hV26307, (-1), (by omega), (by omega), (by rw [show (I26307 8) = (I 8) from ((hI26307 8 rfl).trans ((hI26299 8 rfl).trans (hI26189 8 rfl)))] <;> omega), (by omega), (show L26307 = L from (hL26307.trans (hL26299.trans hL26189))), hF, rfl, rfl⟩ dX12_toldWord_58
    · skip
      replace hF := FE.neg hF c26304
      refine g_aload_n hk dX12_toldWord_48 rfl ?_
      refine g_callV (n := 0) hk (j127_X12_goesOn l D zt r g I26299 A26299 L26299  hV26299) (SP.same _) (fun _ h => h) (gi_V (List.mem_cons_of_mem _ (List.mem_append_left _ (List.mem_of_getElem? (i := 0) rfl))) (List.mem_cons_of_mem _ (List.mem_append_left _ (List.mem_of_getElem? (i := 1) rfl))) (List.mem_cons_of_mem _ (List.mem_append_left _ (List.mem_of_getElem? (i := 2) rfl))) (List.mem_cons_of_mem _ (List.mem_append_left _ (List.mem_of_getElem? (i := 3) rfl))) (gi_sub (fun w h => (List.mem_cons_of_mem _ (List.mem_append_right _ (List.mem_append_right _ (List.mem_append_left _ h))))) zg_j127_X12_goesOn)) rfl rfl rfl (by decide +kernel) ⟨Nat.le_of_ble_eq_true rfl, Nat.le_of_ble_eq_true rfl⟩ 0 rfl rfl rfl rfl (Nat.le_of_ble_eq_true rfl) ⟨Nat.le_of_ble_eq_true rfl, Nat.le_of_ble_eq_true rfl⟩ dX12_toldWord_49 (fun v ty' w' hp hk' => ?_)
      obtain ⟨I26316, A26316, L26316, hI26316, hA26316, hV26316, r26317, r26318, r26319, r26320, hL26316, hC, rfl, rfl⟩ := hp
      replace hF := FE.bdM hF hC
      have f26321 := IvM_f4 hV26316
      rw [show (I26299 4) = (I26189 4) from (hI26299 4 rfl)] at r26317
      have f26322 := IvM_f6 hV26316
      rw [show (I26299 8) = (I 8) from ((hI26299 8 rfl).trans (hI26189 8 rfl)), show (I26316 8) = (I 8) from ((hI26316 8 rfl).trans ((hI26299 8 rfl).trans (hI26189 8 rfl)))] at r26319
      rw [show (I26299 4) = (I26189 4) from (hI26299 4 rfl)] at r26320
      show GW κ 4 0 0 (wM r g I26316 A26316 L26316) 52 [(3, .int (-1)), (0, .ref (r 0)), (1, .int z1), (2, .int z2)] []
      refine g_aload_n hk dX12_toldWord_52 rfl ?_
      refine g_iconst (v := 4) hk dX12_toldWord_53 (by decide) ?_
      have k26323 : (4 : Int32).toInt = 4 := rfl
      refine g_callV (n := 1) hk (j131_X12_must l D zt r g I26316 A26316 L26316 4 hV26316) (SP.same _) (fun _ h => h) (gi_V (List.mem_cons_of_mem _ (List.mem_append_left _ (List.mem_of_getElem? (i := 10) rfl))) (List.mem_cons_of_mem _ (List.mem_append_left _ (List.mem_of_getElem? (i := 11) rfl))) (List.mem_cons_of_mem _ (List.mem_append_left _ (List.mem_of_getElem? (i := 12) rfl))) (List.mem_cons_of_mem _ (List.mem_append_left _ (List.mem_of_getElem? (i := 3) rfl))) (gi_sub (fun w h => (List.mem_cons_of_mem _ (List.mem_append_right _ (List.mem_append_right _ (List.mem_append_right _ (List.mem_append_right _ (List.mem_append_left _ h))))))) zg_j131_X12_must)) rfl rfl rfl (by decide +kernel) ⟨Nat.le_of_ble_eq_true rfl, Nat.le_of_ble_eq_true rfl⟩ 0 rfl rfl rfl rfl (Nat.le_of_ble_eq_true rfl) ⟨Nat.le_of_ble_eq_true rfl, Nat.le_of_ble_eq_true rfl⟩ dX12_toldWord_54 (fun v ty' w' hp hk' => ?_)
      obtain ⟨I26325, A26325, L26325, hI26325, hA26325, hV26325, r26326, r26327, r26328, r26329, r26330, hL26325, hC, rfl, rfl⟩ := hp
      replace hF := FE.bdM hF hC
      have f26331 := IvM_f4 hV26325
      have f26332 := IvM_f6 hV26325
      rw [show (I26316 8) = (I 8) from ((hI26316 8 rfl).trans ((hI26299 8 rfl).trans (hI26189 8 rfl))), show (I26325 8) = (I 8) from ((hI26325 8 rfl).trans ((hI26316 8 rfl).trans ((hI26299 8 rfl).trans (hI26189 8 rfl))))] at r26328
      rw [show (A26316 2 (I26316 4).toNatClampNeg) = (A 2 (I26316 4).toNatClampNeg) from ((congrFun (hA26316 2 rfl) _).trans ((congrFun (hA26299 2 rfl) _).trans (congrFun (hA26189 2 rfl) _)))] at r26330
      show GW κ 4 0 0 (wM r g I26325 A26325 L26325) 57 [(3, .int (-1)), (0, .ref (r 0)), (1, .int z1), (2, .int z2)] []
      refine g_iload_n hk dX12_toldWord_57 rfl ?_
      exact g_iret hk hR rfl ⟨I26325, A26325, L26325, (show Md [4, 6, 7, 12] I I26325 from (Md.tr (Md.tr (Md.tr (Md.tr Md.rf hI26189 rfl) hI26299 rfl) hI26316 rfl) hI26325 rfl)), (show Md [] A A26325 from (Md.tr (Md.tr (Md.tr (Md.tr Md.rf hA26189 rfl) hA26299 rfl) hA26316 rfl) hA26325 rfl)), hV26325, (-1), (by omega), (by omega), (by rw [show (I26325 8) = (I 8) from ((hI26325 8 rfl).trans ((hI26316 8 rfl).trans ((hI26299 8 rfl).trans (hI26189 8 rfl))))] <;> omega), (by omega), (show L26325 = L from (hL26325.trans (hL26316.trans (hL26299.trans hL26189)))), hF, rfl, rfl⟩ dX12_toldWord_58
noncomputable def fM12_tellOne (I : Nat → Int32) (A : Nat → Nat → Int32) (L : Nat → Nat → Int64) : Int32 × (Nat → Int32) × (Nat → Nat → Int32) × (Nat → Nat → Int64) := if (A 2 (I 4).toNatClampNeg).toInt = 20 then f_bdM (fM12_goesOn I A L) fun _ I15247 A15247 L15247 => if (I15247 6).toInt ≠ 0 then (0, I15247, A15247, L15247) else f_bdM (fM12_tellSeries I15247 A15247 L15247) fun _ I16792 A16792 L16792 => (0, I16792, A16792, L16792) else if (A 2 (I 4).toNatClampNeg).toInt = 21 then if (I 16).toInt = 0 then if (A 10 0).toInt ≠ 5 then if (I 6).toInt ≠ 0 then (0, I, A, L) else f_bdM (fM12_goesOn I A L) fun _ I16808 A16808 L16808 => if (I16808 6).toInt ≠ 0 then (0, I16808, A16808, L16808) else f_bdM (fM12_tellQuery I16808 A16808 L16808) fun _ I26027 A26027 L26027 => (0, I26027, A26027, L26027) else f_bdM (fM12_fail I A L 2) fun _ I26036 A26036 L26036 => if (I26036 6).toInt ≠ 0 then (0, I26036, A26036, L26036) else f_bdM (fM12_goesOn I26036 A26036 L26036) fun _ I26045 A26045 L26045 => if (I26045 6).toInt ≠ 0 then (0, I26045, A26045, L26045) else f_bdM (fM12_tellQuery I26045 A26045 L26045) fun _ I26056 A26056 L26056 => (0, I26056, A26056, L26056) else if (I 16).toInt = 1 then if (A 10 1).toInt ≠ 5 then if (I 6).toInt ≠ 0 then (0, I, A, L) else f_bdM (fM12_goesOn I A L) fun _ I26070 A26070 L26070 => if (I26070 6).toInt ≠ 0 then (0, I26070, A26070, L26070) else f_bdM (fM12_tellQuery I26070 A26070 L26070) fun _ I26082 A26082 L26082 => (0, I26082, A26082, L26082) else f_bdM (fM12_fail I A L 2) fun _ I26091 A26091 L26091 => if (I26091 6).toInt ≠ 0 then (0, I26091, A26091, L26091) else f_bdM (fM12_goesOn I26091 A26091 L26091) fun _ I26100 A26100 L26100 => if (I26100 6).toInt ≠ 0 then (0, I26100, A26100, L26100) else f_bdM (fM12_tellQuery I26100 A26100 L26100) fun _ I26111 A26111 L26111 => (0, I26111, A26111, L26111) else dfM else if (A 2 (I 4).toNatClampNeg).toInt = 22 then if (I 16).toInt = 0 then f_bdM (fM12_toldInt I A L 0 15) fun y26156 I26157 A26157 L26157 => (0, I26157, (up3 A26157 13 0 y26156), L26157) else if (I 16).toInt = 1 then f_bdM (fM12_toldInt I A L 0 15) fun y26172 I26173 A26173 L26173 => (0, I26173, (up3 A26173 13 1 y26172), L26173) else dfM else if (A 2 (I 4).toNatClampNeg).toInt = 23 then if (I 16).toInt = 0 then f_bdM (fM12_toldWord I A L 27 4) fun y26335 I26336 A26336 L26336 => (0, I26336, (up3 A26336 14 0 y26335), L26336) else if (I 16).toInt = 1 then f_bdM (fM12_toldWord I A L 27 4) fun y26348 I26349 A26349 L26349 => (0, I26349, (up3 A26349 14 1 y26348), L26349) else dfM else if (A 2 (I 4).toNatClampNeg).toInt = 24 then if (I 16).toInt = 0 then f_bdM (fM12_toldWord I A L 31 2) fun y26363 I26364 A26364 L26364 => (0, I26364, (up3 A26364 15 0 y26363), L26364) else if (I 16).toInt = 1 then f_bdM (fM12_toldWord I A L 31 2) fun y26376 I26377 A26377 L26377 => (0, I26377, (up3 A26377 15 1 y26376), L26377) else dfM else if (A 2 (I 4).toNatClampNeg).toInt = 25 then if (I 16).toInt = 0 then f_bdM (fM12_toldInt I A L 1 99) fun y26391 I26392 A26392 L26392 => (0, I26392, (up3 A26392 16 0 y26391), L26392) else if (I 16).toInt = 1 then f_bdM (fM12_toldInt I A L 1 99) fun y26411 I26412 A26412 L26412 => (0, I26412, (up3 A26412 16 1 y26411), L26412) else dfM else f_bdM (fM12_fail I A L 1) fun _ I26430 A26430 L26430 => (0, I26430, A26430, L26430)
def wo_j126_X12_tellOne : List Cond := [Cond.fieldLink RX12 20 "WarpDeskModel" "tKind" "[I", Cond.fieldLink RX12 164 "WarpDeskModel" "t" "I", Cond.methodLink RX12 191 yX12_goesOn, Cond.instanceMethod yX12_goesOn, Cond.selects RX12 yX12_goesOn yX12_goesOn, Cond.initialized RX12, Cond.fieldLink RX12 161 "WarpDeskModel" "fault" "I", Cond.methodLink RX12 219 yX12_tellSeries, Cond.instanceMethod yX12_tellSeries, Cond.selects RX12 yX12_tellSeries yX12_tellSeries, Cond.fieldLink RX12 49 "WarpDeskModel" "queries" "[I", Cond.fieldLink RX12 200 "WarpDeskModel" "side" "I", Cond.methodLink RX12 222 yX12_tellQuery, Cond.instanceMethod yX12_tellQuery, Cond.selects RX12 yX12_tellQuery yX12_tellQuery, Cond.methodLink RX12 185 yX12_fail, Cond.instanceMethod yX12_fail, Cond.selects RX12 yX12_fail yX12_fail, Cond.fieldLink RX12 58 "WarpDeskModel" "bandTold" "[I", Cond.methodLink RX12 225 yX12_toldInt, Cond.instanceMethod yX12_toldInt, Cond.selects RX12 yX12_toldInt yX12_toldInt, Cond.fieldLink RX12 61 "WarpDeskModel" "levelTold" "[I", Cond.methodLink RX12 228 yX12_toldWord, Cond.instanceMethod yX12_toldWord, Cond.selects RX12 yX12_toldWord yX12_toldWord, Cond.fieldLink RX12 64 "WarpDeskModel" "costTold" "[I", Cond.fieldLink RX12 67 "WarpDeskModel" "apartTold" "[I"]
def wz_j126_X12_tellOne : List Cond := .code yX12_tellOne cX12_tellOne 1 none :: (wo_j126_X12_tellOne ++ (wsX120 ++ (wz_j127_X12_goesOn ++ (wz_j129_X12_tellSeries ++ (wz_j135_X12_tellQuery ++ (wz_j128_X12_fail ++ (wz_j136_X12_toldInt ++ (wz_j137_X12_toldWord ++ ([] : List Cond)))))))))
theorem zg_j126_X12_tellOne : ∀ w ∈ wz_j126_X12_tellOne, goodWord w = true := zg_cons rfl (zg_app (by decide +kernel) (zg_app zgU_wsX120 (zg_app zg_j127_X12_goesOn (zg_app zg_j129_X12_tellSeries (zg_app zg_j135_X12_tellQuery (zg_app zg_j128_X12_fail (zg_app zg_j136_X12_toldInt (zg_app zg_j137_X12_toldWord zg_nil))))))))
theorem zi_j126_X12_tellOne : ∀ w ∈ wz_j126_X12_tellOne, w ∈ lw_tbl := zi_cons zw_1590 (zi_app (zi_cons zw_1384 (zi_cons zw_1390 (zi_cons zw_1591 (zi_cons zw_1593 (zi_cons zw_54 (zi_cons zw_115 (zi_cons zw_1391 (zi_cons zw_1599 (zi_cons zw_1601 (zi_cons zw_56 (zi_cons zw_1406 (zi_cons zw_1401 (zi_cons zw_1624 (zi_cons zw_1626 (zi_cons zw_62 (zi_cons zw_1595 (zi_cons zw_1597 (zi_cons zw_55 (zi_cons zw_1409 (zi_cons zw_1628 (zi_cons zw_1630 (zi_cons zw_63 (zi_cons zw_1410 (zi_cons zw_1632 (zi_cons zw_1634 (zi_cons zw_64 (zi_cons zw_1411 (zi_cons zw_1412 zi_nil)))))))))))))))))))))))))))) (zi_app inX12 (zi_app zi_j127_X12_goesOn (zi_app zi_j129_X12_tellSeries (zi_app zi_j135_X12_tellQuery (zi_app zi_j128_X12_fail (zi_app zi_j136_X12_toldInt (zi_app zi_j137_X12_toldWord zi_nil))))))))
set_option maxHeartbeats 4000000 in
set_option maxRecDepth 100000 in
theorem j126_X12_tellOne (l : Launch) (D : va_G) (zt : Nat × Nat × Nat × (Nat → Nat) × (Nat → Nat)) (r : Nat → Nat) (g : Nat → ClassId) (I : Nat → Int32) (A : Nat → Nat → Int32) (L : Nat → Nat → Int64) (hIv : IvM I A) (hp0 : (I 15).toInt + (I 16).toInt = 1) : GM l D zt (tyM g) yX12_tellOne wz_j126_X12_tellOne ({ frames := 5, cells := 0, slots := 0, locals := 109 } : Room) [.ref (r 0)] (wM r g I A L) (fun v _ w' => ∃ (I' : Nat → Int32) (A' : Nat → Nat → Int32) (L' : Nat → Nat → Int64), Md [4, 6, 7, 8, 9, 11, 12, 13, 17] I I' ∧ Md [8, 9, 10, 11, 12, 13, 14, 15, 16] A A' ∧ IvM I' A' ∧ ((I 4).toInt ≤ (I' 4).toInt) ∧ ((I 6).toInt ≤ (I' 6).toInt) ∧ ((I 8).toInt ≤ 9 * (I' 8).toInt) ∧ ((I 4).toInt < (I' 4).toInt + (I' 6).toInt) ∧ FE (fM12_tellOne I A L) (0, I', A', L') ∧ v = none ∧ w' = wM r g I' A' L') 0 0 := by
  refine GM.of (cc := cX12_tellOne) (maxL := 1) (ret := none) (own := RX12) (lv := [(0, .ref (r 0))]) (by decide) rfl rfl (Nat.le_of_ble_eq_true rfl) rfl (fun κ sz hk hR hN => ?_)
  have hin12 : ∀ w ∈ u_ws RX12 TX12 55, w ∈ wz_j126_X12_tellOne := fun w h => (List.mem_cons_of_mem _ (List.mem_append_right _ (List.mem_append_left _ h)))
  have hF : FE (fM12_tellOne I A L) (fM12_tellOne I A L) := FE.rf
  refine g_aload_n hk dX12_tellOne_0 rfl ?_
  refine gM_r0_5 hk hin12 (List.mem_cons_of_mem _ (List.mem_append_left _ (List.mem_of_getElem? (i := 0) rfl))) dX12_tellOne_1 ?_
  refine g_aload_n hk dX12_tellOne_4 rfl ?_
  refine gM_i4 (v := (I 4)) hk hin12 (List.mem_cons_of_mem _ (List.mem_append_left _ (List.mem_of_getElem? (i := 1) rfl))) dX12_tellOne_5 rfl ?_
  have f15225 := IvM_f4 hIv
  refine lM_2 (v := (A 2 (I 4).toNatClampNeg)) hk (vp_in_iff.mpr ⟨by omega, by omega⟩) rfl dX12_tellOne_8 ?_
  by_cases c15226 : (A 2 (I 4).toNatClampNeg).toInt = 20
  · refine g_tabIn (tgt := 48) (a := 20) hk dX12_tellOne_9 c15226 (by decide) (by decide) rfl (by decide) ?_
    replace hF := FE.pos hF c15226
    refine g_aload_n hk dX12_tellOne_48 rfl ?_
    refine g_callV (n := 0) hk (j127_X12_goesOn l D zt r g I A L  hIv) (SP.same _) (fun _ h => h) (gi_V (List.mem_cons_of_mem _ (List.mem_append_left _ (List.mem_of_getElem? (i := 2) rfl))) (List.mem_cons_of_mem _ (List.mem_append_left _ (List.mem_of_getElem? (i := 3) rfl))) (List.mem_cons_of_mem _ (List.mem_append_left _ (List.mem_of_getElem? (i := 4) rfl))) (List.mem_cons_of_mem _ (List.mem_append_left _ (List.mem_of_getElem? (i := 5) rfl))) (gi_sub (fun w h => (List.mem_cons_of_mem _ (List.mem_append_right _ (List.mem_append_right _ (List.mem_append_left _ h))))) zg_j127_X12_goesOn)) rfl rfl rfl (by decide +kernel) ⟨Nat.le_of_ble_eq_true rfl, Nat.le_of_ble_eq_true rfl⟩ 0 rfl rfl rfl rfl (Nat.le_of_ble_eq_true rfl) ⟨Nat.le_of_ble_eq_true rfl, Nat.le_of_ble_eq_true rfl⟩ dX12_tellOne_49 (fun v ty' w' hp hk' => ?_)
    obtain ⟨I15247, A15247, L15247, hI15247, hA15247, hV15247, r15248, r15249, r15250, r15251, hL15247, hC, rfl, rfl⟩ := hp
    replace hF := FE.bdM hF hC
    have f15252 := IvM_f4 hV15247
    have f15253 := IvM_f6 hIv
    have f15254 := IvM_f6 hV15247
    have f15255 := IvM_f8 hIv
    rw [show (I15247 8) = (I 8) from (hI15247 8 rfl)] at r15250
    show GW κ 1 0 0 (wM r g I15247 A15247 L15247) 52 [(0, .ref (r 0))] []
    refine g_aload_n hk dX12_tellOne_52 rfl ?_
    refine gM_i6 (v := (I15247 6)) hk hin12 (List.mem_cons_of_mem _ (List.mem_append_left _ (List.mem_of_getElem? (i := 6) rfl))) dX12_tellOne_53 rfl ?_
    refine g_if_ne (tgt := 190) (a := (I15247 6).toInt) hk dX12_tellOne_56 (by decide) rfl (fun c15256 => ?_) (fun c15256 => ?_)
    · skip
      replace hF := FE.pos hF c15256
      exact g_vret hk hR ⟨I15247, A15247, L15247, (show Md [4, 6, 7, 8, 9, 11, 12, 13, 17] I I15247 from (Md.tr Md.rf hI15247 rfl)), (show Md [8, 9, 10, 11, 12, 13, 14, 15, 16] A A15247 from (Md.tr Md.rf hA15247 rfl)), hV15247, (by omega), (by omega), (by rw [show (I15247 8) = (I 8) from (hI15247 8 rfl)] <;> omega), (by omega), hF, rfl, rfl⟩ dX12_tellOne_190
    · skip
      replace hF := FE.neg hF c15256
      refine g_aload_n hk dX12_tellOne_59 rfl ?_
      refine g_callV (n := 0) hk (j129_X12_tellSeries l D zt r g I15247 A15247 L15247  hV15247) (SP.same _) (fun _ h => h) (gi_V (List.mem_cons_of_mem _ (List.mem_append_left _ (List.mem_of_getElem? (i := 7) rfl))) (List.mem_cons_of_mem _ (List.mem_append_left _ (List.mem_of_getElem? (i := 8) rfl))) (List.mem_cons_of_mem _ (List.mem_append_left _ (List.mem_of_getElem? (i := 9) rfl))) (List.mem_cons_of_mem _ (List.mem_append_left _ (List.mem_of_getElem? (i := 5) rfl))) (gi_sub (fun w h => (List.mem_cons_of_mem _ (List.mem_append_right _ (List.mem_append_right _ (List.mem_append_right _ (List.mem_append_left _ h)))))) zg_j129_X12_tellSeries)) rfl rfl rfl (by decide +kernel) ⟨Nat.le_of_ble_eq_true rfl, Nat.le_of_ble_eq_true rfl⟩ 0 rfl rfl rfl rfl (Nat.le_of_ble_eq_true rfl) ⟨Nat.le_of_ble_eq_true rfl, Nat.le_of_ble_eq_true rfl⟩ dX12_tellOne_60 (fun v ty' w' hp hk' => ?_)
      obtain ⟨I16792, A16792, L16792, hI16792, hA16792, hV16792, r16793, r16794, r16795, hL16792, hC, rfl, rfl⟩ := hp
      replace hF := FE.bdM hF hC
      have f16796 := IvM_f4 hV16792
      have f16797 := IvM_f6 hV16792
      have f16798 := IvM_f8 hV16792
      rw [show (I15247 8) = (I 8) from (hI15247 8 rfl)] at r16795
      show GW κ 1 0 0 (wM r g I16792 A16792 L16792) 63 [(0, .ref (r 0))] []
      refine g_goto (tgt := 190) hk dX12_tellOne_63 (by decide) ?_
      exact g_vret hk hR ⟨I16792, A16792, L16792, (show Md [4, 6, 7, 8, 9, 11, 12, 13, 17] I I16792 from (Md.tr (Md.tr Md.rf hI15247 rfl) hI16792 rfl)), (show Md [8, 9, 10, 11, 12, 13, 14, 15, 16] A A16792 from (Md.tr (Md.tr Md.rf hA15247 rfl) hA16792 rfl)), hV16792, (by omega), (by omega), (by omega), (by omega), hF, rfl, rfl⟩ dX12_tellOne_190
  replace hF := FE.neg hF c15226
  by_cases c16799 : (A 2 (I 4).toNatClampNeg).toInt = 21
  · refine g_tabIn (tgt := 66) (a := 21) hk dX12_tellOne_9 c16799 (by decide) (by decide) rfl (by decide) ?_
    replace hF := FE.pos hF c16799
    refine g_aload_n hk dX12_tellOne_66 rfl ?_
    refine gM_r0_28 hk hin12 (List.mem_cons_of_mem _ (List.mem_append_left _ (List.mem_of_getElem? (i := 10) rfl))) dX12_tellOne_67 ?_
    refine g_aload_n hk dX12_tellOne_70 rfl ?_
    refine gM_i16 (v := (I 16)) hk hin12 (List.mem_cons_of_mem _ (List.mem_append_left _ (List.mem_of_getElem? (i := 11) rfl))) dX12_tellOne_71 rfl ?_
    have f16800 := IvM_f16 hIv
    by_cases c16801 : (I 16).toInt = 0
    · have ec16801 : (I 16) = 0 := Int32.toInt_inj.mp c16801
      replace hF := FE.pos hF c16801
      rw [ec16801]
      show GW κ 1 0 0 (wM r g I A L) 74 [(0, .ref (r 0))] [.int 0, .ref (r 11)]
      refine lM_10 (v := (A 10 0)) hk (vp_in_iff.mpr ⟨by decide, by decide⟩) rfl dX12_tellOne_74 ?_
      have f16802 := IvM_s10_0 hIv
      refine g_iconst (v := 5) hk dX12_tellOne_75 (by decide) ?_
      refine g_icmp_ne (tgt := 84) (a := (A 10 0).toInt) (b := 5) hk dX12_tellOne_76 (by decide) rfl rfl (fun c16803 => ?_) (fun c16803 => ?_)
      · skip
        replace hF := FE.pos hF c16803
        refine g_aload_n hk dX12_tellOne_84 rfl ?_
        refine gM_i6 (v := (I 6)) hk hin12 (List.mem_cons_of_mem _ (List.mem_append_left _ (List.mem_of_getElem? (i := 6) rfl))) dX12_tellOne_85 rfl ?_
        have f16804 := IvM_f6 hIv
        refine g_if_ne (tgt := 95) (a := (I 6).toInt) hk dX12_tellOne_88 (by decide) rfl (fun c16805 => ?_) (fun c16805 => ?_)
        · skip
          replace hF := FE.pos hF c16805
          refine g_aload_n hk dX12_tellOne_95 rfl ?_
          refine gM_i6 (v := (I 6)) hk hin12 (List.mem_cons_of_mem _ (List.mem_append_left _ (List.mem_of_getElem? (i := 6) rfl))) dX12_tellOne_96 rfl ?_
          refine g_if_ne (tgt := 190) (a := (I 6).toInt) hk dX12_tellOne_99 (by decide) rfl (fun _ => ?_) (fun z9 => absurd (show (I 6).toInt ≠ 0 from by omega) z9)
          have f16806 := IvM_f8 hIv
          exact g_vret hk hR ⟨I, A, L, (show Md [4, 6, 7, 8, 9, 11, 12, 13, 17] I I from Md.rf), (show Md [8, 9, 10, 11, 12, 13, 14, 15, 16] A A from Md.rf), hIv, (by omega), (by omega), (by omega), (by omega), hF, rfl, rfl⟩ dX12_tellOne_190
        · skip
          replace hF := FE.neg hF c16805
          refine g_aload_n hk dX12_tellOne_91 rfl ?_
          refine g_callV (n := 0) hk (j127_X12_goesOn l D zt r g I A L  hIv) (SP.same _) (fun _ h => h) (gi_V (List.mem_cons_of_mem _ (List.mem_append_left _ (List.mem_of_getElem? (i := 2) rfl))) (List.mem_cons_of_mem _ (List.mem_append_left _ (List.mem_of_getElem? (i := 3) rfl))) (List.mem_cons_of_mem _ (List.mem_append_left _ (List.mem_of_getElem? (i := 4) rfl))) (List.mem_cons_of_mem _ (List.mem_append_left _ (List.mem_of_getElem? (i := 5) rfl))) (gi_sub (fun w h => (List.mem_cons_of_mem _ (List.mem_append_right _ (List.mem_append_right _ (List.mem_append_left _ h))))) zg_j127_X12_goesOn)) rfl rfl rfl (by decide +kernel) ⟨Nat.le_of_ble_eq_true rfl, Nat.le_of_ble_eq_true rfl⟩ 0 rfl rfl rfl rfl (Nat.le_of_ble_eq_true rfl) ⟨Nat.le_of_ble_eq_true rfl, Nat.le_of_ble_eq_true rfl⟩ dX12_tellOne_92 (fun v ty' w' hp hk' => ?_)
          obtain ⟨I16808, A16808, L16808, hI16808, hA16808, hV16808, r16809, r16810, r16811, r16812, hL16808, hC, rfl, rfl⟩ := hp
          replace hF := FE.bdM hF hC
          have f16813 := IvM_f4 hV16808
          have f16814 := IvM_f6 hV16808
          have f16815 := IvM_f8 hIv
          rw [show (I16808 8) = (I 8) from (hI16808 8 rfl)] at r16811
          show GW κ 1 0 0 (wM r g I16808 A16808 L16808) 95 [(0, .ref (r 0))] []
          refine g_aload_n hk dX12_tellOne_95 rfl ?_
          refine gM_i6 (v := (I16808 6)) hk hin12 (List.mem_cons_of_mem _ (List.mem_append_left _ (List.mem_of_getElem? (i := 6) rfl))) dX12_tellOne_96 rfl ?_
          refine g_if_ne (tgt := 190) (a := (I16808 6).toInt) hk dX12_tellOne_99 (by decide) rfl (fun c16816 => ?_) (fun c16816 => ?_)
          · skip
            replace hF := FE.pos hF c16816
            exact g_vret hk hR ⟨I16808, A16808, L16808, (show Md [4, 6, 7, 8, 9, 11, 12, 13, 17] I I16808 from (Md.tr Md.rf hI16808 rfl)), (show Md [8, 9, 10, 11, 12, 13, 14, 15, 16] A A16808 from (Md.tr Md.rf hA16808 rfl)), hV16808, (by omega), (by omega), (by rw [show (I16808 8) = (I 8) from (hI16808 8 rfl)] <;> omega), (by omega), hF, rfl, rfl⟩ dX12_tellOne_190
          · skip
            replace hF := FE.neg hF c16816
            refine g_aload_n hk dX12_tellOne_102 rfl ?_
            have f26024 := IvM_f15 hIv
            have f26025 := IvM_s10_1 hIv
            refine g_callV (n := 0) hk (j135_X12_tellQuery l D zt r g I16808 A16808 L16808  hV16808 (by first | (rw [show (I16808 15) = (I 15) from (hI16808 15 rfl), show (I16808 16) = (I 16) from (hI16808 16 rfl)] <;> omega) | omega) (by first | (rw [show (I16808 16) = (I 16) from (hI16808 16 rfl), show (A16808 10 0) = (A 10 0) from (congrFun (hA16808 10 rfl) _)] <;> omega) | omega) (by first | (rw [show (I16808 16) = (I 16) from (hI16808 16 rfl), show (A16808 10 1) = (A 10 1) from (congrFun (hA16808 10 rfl) _)] <;> omega) | omega)) (SP.same _) (fun _ h => h) (gi_V (List.mem_cons_of_mem _ (List.mem_append_left _ (List.mem_of_getElem? (i := 12) rfl))) (List.mem_cons_of_mem _ (List.mem_append_left _ (List.mem_of_getElem? (i := 13) rfl))) (List.mem_cons_of_mem _ (List.mem_append_left _ (List.mem_of_getElem? (i := 14) rfl))) (List.mem_cons_of_mem _ (List.mem_append_left _ (List.mem_of_getElem? (i := 5) rfl))) (gi_sub (fun w h => (List.mem_cons_of_mem _ (List.mem_append_right _ (List.mem_append_right _ (List.mem_append_right _ (List.mem_append_right _ (List.mem_append_left _ h))))))) zg_j135_X12_tellQuery)) rfl rfl rfl (by decide +kernel) ⟨Nat.le_of_ble_eq_true rfl, Nat.le_of_ble_eq_true rfl⟩ 0 rfl rfl rfl rfl (Nat.le_of_ble_eq_true rfl) ⟨Nat.le_of_ble_eq_true rfl, Nat.le_of_ble_eq_true rfl⟩ dX12_tellOne_103 (fun v ty' w' hp hk' => ?_)
            obtain ⟨I26027, A26027, L26027, hI26027, hA26027, hV26027, r26028, r26029, r26030, hC, rfl, rfl⟩ := hp
            replace hF := FE.bdM hF hC
            have f26031 := IvM_f4 hV26027
            have f26032 := IvM_f6 hV26027
            have f26033 := IvM_f8 hV26027
            rw [show (I16808 8) = (I 8) from (hI16808 8 rfl)] at r26030
            show GW κ 1 0 0 (wM r g I26027 A26027 L26027) 106 [(0, .ref (r 0))] []
            refine g_goto (tgt := 190) hk dX12_tellOne_106 (by decide) ?_
            exact g_vret hk hR ⟨I26027, A26027, L26027, (show Md [4, 6, 7, 8, 9, 11, 12, 13, 17] I I26027 from (Md.tr (Md.tr Md.rf hI16808 rfl) hI26027 rfl)), (show Md [8, 9, 10, 11, 12, 13, 14, 15, 16] A A26027 from (Md.tr (Md.tr Md.rf hA16808 rfl) hA26027 rfl)), hV26027, (by omega), (by omega), (by omega), (by omega), hF, rfl, rfl⟩ dX12_tellOne_190
      · skip
        replace hF := FE.neg hF c16803
        refine g_aload_n hk dX12_tellOne_79 rfl ?_
        refine g_iconst (v := 2) hk dX12_tellOne_80 (by decide) ?_
        have k26034 : (2 : Int32).toInt = 2 := rfl
        refine g_callV (n := 1) hk (j128_X12_fail l D zt r g I A L 2 hIv (by decide) (by decide)) (SP.same _) (fun _ h => h) (gi_V (List.mem_cons_of_mem _ (List.mem_append_left _ (List.mem_of_getElem? (i := 15) rfl))) (List.mem_cons_of_mem _ (List.mem_append_left _ (List.mem_of_getElem? (i := 16) rfl))) (List.mem_cons_of_mem _ (List.mem_append_left _ (List.mem_of_getElem? (i := 17) rfl))) (List.mem_cons_of_mem _ (List.mem_append_left _ (List.mem_of_getElem? (i := 5) rfl))) (gi_sub (fun w h => (List.mem_cons_of_mem _ (List.mem_append_right _ (List.mem_append_right _ (List.mem_append_right _ (List.mem_append_right _ (List.mem_append_right _ (List.mem_append_left _ h)))))))) zg_j128_X12_fail)) rfl rfl rfl (by decide +kernel) ⟨Nat.le_of_ble_eq_true rfl, Nat.le_of_ble_eq_true rfl⟩ 0 rfl rfl rfl rfl (Nat.le_of_ble_eq_true rfl) ⟨Nat.le_of_ble_eq_true rfl, Nat.le_of_ble_eq_true rfl⟩ dX12_tellOne_81 (fun v ty' w' hp hk' => ?_)
        obtain ⟨I26036, A26036, L26036, hI26036, hA26036, hV26036, r26037, r26038, r26039, hL26036, hC, rfl, rfl⟩ := hp
        replace hF := FE.bdM hF hC
        have f26040 := IvM_f6 hIv
        have f26041 := IvM_f6 hV26036
        have f26042 := IvM_f8 hIv
        rw [show (I26036 8) = (I 8) from (hI26036 8 rfl)] at r26038
        show GW κ 1 0 0 (wM r g I26036 A26036 L26036) 84 [(0, .ref (r 0))] []
        refine g_aload_n hk dX12_tellOne_84 rfl ?_
        refine gM_i6 (v := (I26036 6)) hk hin12 (List.mem_cons_of_mem _ (List.mem_append_left _ (List.mem_of_getElem? (i := 6) rfl))) dX12_tellOne_85 rfl ?_
        refine g_if_ne (tgt := 95) (a := (I26036 6).toInt) hk dX12_tellOne_88 (by decide) rfl (fun c26043 => ?_) (fun c26043 => ?_)
        · skip
          replace hF := FE.pos hF c26043
          refine g_aload_n hk dX12_tellOne_95 rfl ?_
          refine gM_i6 (v := (I26036 6)) hk hin12 (List.mem_cons_of_mem _ (List.mem_append_left _ (List.mem_of_getElem? (i := 6) rfl))) dX12_tellOne_96 rfl ?_
          refine g_if_ne (tgt := 190) (a := (I26036 6).toInt) hk dX12_tellOne_99 (by decide) rfl (fun _ => ?_) (fun z9 => absurd (show (I26036 6).toInt ≠ 0 from by omega) z9)
          exact g_vret hk hR ⟨I26036, A26036, L26036, (show Md [4, 6, 7, 8, 9, 11, 12, 13, 17] I I26036 from (Md.tr Md.rf hI26036 rfl)), (show Md [8, 9, 10, 11, 12, 13, 14, 15, 16] A A26036 from (Md.tr Md.rf hA26036 rfl)), hV26036, (by rw [show (I26036 4) = (I 4) from (hI26036 4 rfl)] <;> omega), (by omega), (by rw [show (I26036 8) = (I 8) from (hI26036 8 rfl)] <;> omega), (by rw [show (I26036 4) = (I 4) from (hI26036 4 rfl)] <;> omega), hF, rfl, rfl⟩ dX12_tellOne_190
        · skip
          replace hF := FE.neg hF c26043
          refine g_aload_n hk dX12_tellOne_91 rfl ?_
          refine g_callV (n := 0) hk (j127_X12_goesOn l D zt r g I26036 A26036 L26036  hV26036) (SP.same _) (fun _ h => h) (gi_V (List.mem_cons_of_mem _ (List.mem_append_left _ (List.mem_of_getElem? (i := 2) rfl))) (List.mem_cons_of_mem _ (List.mem_append_left _ (List.mem_of_getElem? (i := 3) rfl))) (List.mem_cons_of_mem _ (List.mem_append_left _ (List.mem_of_getElem? (i := 4) rfl))) (List.mem_cons_of_mem _ (List.mem_append_left _ (List.mem_of_getElem? (i := 5) rfl))) (gi_sub (fun w h => (List.mem_cons_of_mem _ (List.mem_append_right _ (List.mem_append_right _ (List.mem_append_left _ h))))) zg_j127_X12_goesOn)) rfl rfl rfl (by decide +kernel) ⟨Nat.le_of_ble_eq_true rfl, Nat.le_of_ble_eq_true rfl⟩ 0 rfl rfl rfl rfl (Nat.le_of_ble_eq_true rfl) ⟨Nat.le_of_ble_eq_true rfl, Nat.le_of_ble_eq_true rfl⟩ dX12_tellOne_92 (fun v ty' w' hp hk' => ?_)
          obtain ⟨I26045, A26045, L26045, hI26045, hA26045, hV26045, r26046, r26047, r26048, r26049, hL26045, hC, rfl, rfl⟩ := hp
          replace hF := FE.bdM hF hC
          have f26050 := IvM_f4 hV26045
          rw [show (I26036 4) = (I 4) from (hI26036 4 rfl)] at r26046
          have f26051 := IvM_f6 hV26045
          rw [show (I26036 8) = (I 8) from (hI26036 8 rfl), show (I26045 8) = (I 8) from ((hI26045 8 rfl).trans (hI26036 8 rfl))] at r26048
          rw [show (I26036 4) = (I 4) from (hI26036 4 rfl)] at r26049
          show GW κ 1 0 0 (wM r g I26045 A26045 L26045) 95 [(0, .ref (r 0))] []
          refine g_aload_n hk dX12_tellOne_95 rfl ?_
          refine gM_i6 (v := (I26045 6)) hk hin12 (List.mem_cons_of_mem _ (List.mem_append_left _ (List.mem_of_getElem? (i := 6) rfl))) dX12_tellOne_96 rfl ?_
          refine g_if_ne (tgt := 190) (a := (I26045 6).toInt) hk dX12_tellOne_99 (by decide) rfl (fun c26052 => ?_) (fun c26052 => ?_)
          · skip
            replace hF := FE.pos hF c26052
            exact g_vret hk hR ⟨I26045, A26045, L26045, (show Md [4, 6, 7, 8, 9, 11, 12, 13, 17] I I26045 from (Md.tr (Md.tr Md.rf hI26036 rfl) hI26045 rfl)), (show Md [8, 9, 10, 11, 12, 13, 14, 15, 16] A A26045 from (Md.tr (Md.tr Md.rf hA26036 rfl) hA26045 rfl)), hV26045, (by omega), (by omega), (by rw [show (I26045 8) = (I 8) from ((hI26045 8 rfl).trans (hI26036 8 rfl))] <;> omega), (by omega), hF, rfl, rfl⟩ dX12_tellOne_190
          · skip
            replace hF := FE.neg hF c26052
            refine g_aload_n hk dX12_tellOne_102 rfl ?_
            have f26053 := IvM_f15 hIv
            have f26054 := IvM_s10_1 hIv
            refine g_callV (n := 0) hk (j135_X12_tellQuery l D zt r g I26045 A26045 L26045  hV26045 (by first | (rw [show (I26045 15) = (I 15) from ((hI26045 15 rfl).trans (hI26036 15 rfl)), show (I26045 16) = (I 16) from ((hI26045 16 rfl).trans (hI26036 16 rfl))] <;> omega) | omega) (by first | (rw [show (I26045 16) = (I 16) from ((hI26045 16 rfl).trans (hI26036 16 rfl)), show (A26045 10 0) = (A 10 0) from ((congrFun (hA26045 10 rfl) _).trans (congrFun (hA26036 10 rfl) _))] <;> omega) | omega) (by first | (rw [show (I26045 16) = (I 16) from ((hI26045 16 rfl).trans (hI26036 16 rfl)), show (A26045 10 1) = (A 10 1) from ((congrFun (hA26045 10 rfl) _).trans (congrFun (hA26036 10 rfl) _))] <;> omega) | omega)) (SP.same _) (fun _ h => h) (gi_V (List.mem_cons_of_mem _ (List.mem_append_left _ (List.mem_of_getElem? (i := 12) rfl))) (List.mem_cons_of_mem _ (List.mem_append_left _ (List.mem_of_getElem? (i := 13) rfl))) (List.mem_cons_of_mem _ (List.mem_append_left _ (List.mem_of_getElem? (i := 14) rfl))) (List.mem_cons_of_mem _ (List.mem_append_left _ (List.mem_of_getElem? (i := 5) rfl))) (gi_sub (fun w h => (List.mem_cons_of_mem _ (List.mem_append_right _ (List.mem_append_right _ (List.mem_append_right _ (List.mem_append_right _ (List.mem_append_left _ h))))))) zg_j135_X12_tellQuery)) rfl rfl rfl (by decide +kernel) ⟨Nat.le_of_ble_eq_true rfl, Nat.le_of_ble_eq_true rfl⟩ 0 rfl rfl rfl rfl (Nat.le_of_ble_eq_true rfl) ⟨Nat.le_of_ble_eq_true rfl, Nat.le_of_ble_eq_true rfl⟩ dX12_tellOne_103 (fun v ty' w' hp hk' => ?_)
            obtain ⟨I26056, A26056, L26056, hI26056, hA26056, hV26056, r26057, r26058, r26059, hC, rfl, rfl⟩ := hp
            replace hF := FE.bdM hF hC
            have f26060 := IvM_f4 hV26056
            have f26061 := IvM_f6 hV26056
            have f26062 := IvM_f8 hV26056
            rw [show (I26045 8) = (I 8) from ((hI26045 8 rfl).trans (hI26036 8 rfl))] at r26059
            show GW κ 1 0 0 (wM r g I26056 A26056 L26056) 106 [(0, .ref (r 0))] []
            refine g_goto (tgt := 190) hk dX12_tellOne_106 (by decide) ?_
            exact g_vret hk hR ⟨I26056, A26056, L26056, (show Md [4, 6, 7, 8, 9, 11, 12, 13, 17] I I26056 from (Md.tr (Md.tr (Md.tr Md.rf hI26036 rfl) hI26045 rfl) hI26056 rfl)), (show Md [8, 9, 10, 11, 12, 13, 14, 15, 16] A A26056 from (Md.tr (Md.tr (Md.tr Md.rf hA26036 rfl) hA26045 rfl) hA26056 rfl)), hV26056, (by omega), (by omega), (by omega), (by omega), hF, rfl, rfl⟩ dX12_tellOne_190
    replace hF := FE.neg hF c16801
    by_cases c26063 : (I 16).toInt = 1
    · have ec26063 : (I 16) = 1 := Int32.toInt_inj.mp c26063
      replace hF := FE.pos hF c26063
      rw [ec26063]
      show GW κ 1 0 0 (wM r g I A L) 74 [(0, .ref (r 0))] [.int 1, .ref (r 11)]
      refine lM_10 (v := (A 10 1)) hk (vp_in_iff.mpr ⟨by decide, by decide⟩) rfl dX12_tellOne_74 ?_
      have f26064 := IvM_s10_1 hIv
      refine g_iconst (v := 5) hk dX12_tellOne_75 (by decide) ?_
      refine g_icmp_ne (tgt := 84) (a := (A 10 1).toInt) (b := 5) hk dX12_tellOne_76 (by decide) rfl rfl (fun c26065 => ?_) (fun c26065 => ?_)
      · skip
        replace hF := FE.pos hF c26065
        refine g_aload_n hk dX12_tellOne_84 rfl ?_
        refine gM_i6 (v := (I 6)) hk hin12 (List.mem_cons_of_mem _ (List.mem_append_left _ (List.mem_of_getElem? (i := 6) rfl))) dX12_tellOne_85 rfl ?_
        have f26066 := IvM_f6 hIv
        refine g_if_ne (tgt := 95) (a := (I 6).toInt) hk dX12_tellOne_88 (by decide) rfl (fun c26067 => ?_) (fun c26067 => ?_)
        · skip
          replace hF := FE.pos hF c26067
          refine g_aload_n hk dX12_tellOne_95 rfl ?_
          refine gM_i6 (v := (I 6)) hk hin12 (List.mem_cons_of_mem _ (List.mem_append_left _ (List.mem_of_getElem? (i := 6) rfl))) dX12_tellOne_96 rfl ?_
          refine g_if_ne (tgt := 190) (a := (I 6).toInt) hk dX12_tellOne_99 (by decide) rfl (fun _ => ?_) (fun z9 => absurd (show (I 6).toInt ≠ 0 from by omega) z9)
          have f26068 := IvM_f8 hIv
          exact g_vret hk hR ⟨I, A, L, (show Md [4, 6, 7, 8, 9, 11, 12, 13, 17] I I from Md.rf), (show Md [8, 9, 10, 11, 12, 13, 14, 15, 16] A A from Md.rf), hIv, (by omega), (by omega), (by omega), (by omega), hF, rfl, rfl⟩ dX12_tellOne_190
        · skip
          replace hF := FE.neg hF c26067
          refine g_aload_n hk dX12_tellOne_91 rfl ?_
          refine g_callV (n := 0) hk (j127_X12_goesOn l D zt r g I A L  hIv) (SP.same _) (fun _ h => h) (gi_V (List.mem_cons_of_mem _ (List.mem_append_left _ (List.mem_of_getElem? (i := 2) rfl))) (List.mem_cons_of_mem _ (List.mem_append_left _ (List.mem_of_getElem? (i := 3) rfl))) (List.mem_cons_of_mem _ (List.mem_append_left _ (List.mem_of_getElem? (i := 4) rfl))) (List.mem_cons_of_mem _ (List.mem_append_left _ (List.mem_of_getElem? (i := 5) rfl))) (gi_sub (fun w h => (List.mem_cons_of_mem _ (List.mem_append_right _ (List.mem_append_right _ (List.mem_append_left _ h))))) zg_j127_X12_goesOn)) rfl rfl rfl (by decide +kernel) ⟨Nat.le_of_ble_eq_true rfl, Nat.le_of_ble_eq_true rfl⟩ 0 rfl rfl rfl rfl (Nat.le_of_ble_eq_true rfl) ⟨Nat.le_of_ble_eq_true rfl, Nat.le_of_ble_eq_true rfl⟩ dX12_tellOne_92 (fun v ty' w' hp hk' => ?_)
          obtain ⟨I26070, A26070, L26070, hI26070, hA26070, hV26070, r26071, r26072, r26073, r26074, hL26070, hC, rfl, rfl⟩ := hp
          replace hF := FE.bdM hF hC
          have f26075 := IvM_f4 hV26070
          have f26076 := IvM_f6 hV26070
          have f26077 := IvM_f8 hIv
          rw [show (I26070 8) = (I 8) from (hI26070 8 rfl)] at r26073
          show GW κ 1 0 0 (wM r g I26070 A26070 L26070) 95 [(0, .ref (r 0))] []
          refine g_aload_n hk dX12_tellOne_95 rfl ?_
          refine gM_i6 (v := (I26070 6)) hk hin12 (List.mem_cons_of_mem _ (List.mem_append_left _ (List.mem_of_getElem? (i := 6) rfl))) dX12_tellOne_96 rfl ?_
          refine g_if_ne (tgt := 190) (a := (I26070 6).toInt) hk dX12_tellOne_99 (by decide) rfl (fun c26078 => ?_) (fun c26078 => ?_)
          · skip
            replace hF := FE.pos hF c26078
            exact g_vret hk hR ⟨I26070, A26070, L26070, (show Md [4, 6, 7, 8, 9, 11, 12, 13, 17] I I26070 from (Md.tr Md.rf hI26070 rfl)), (show Md [8, 9, 10, 11, 12, 13, 14, 15, 16] A A26070 from (Md.tr Md.rf hA26070 rfl)), hV26070, (by omega), (by omega), (by rw [show (I26070 8) = (I 8) from (hI26070 8 rfl)] <;> omega), (by omega), hF, rfl, rfl⟩ dX12_tellOne_190
          · skip
            replace hF := FE.neg hF c26078
            refine g_aload_n hk dX12_tellOne_102 rfl ?_
            have f26079 := IvM_f15 hIv
            have f26080 := IvM_s10_0 hIv
            refine g_callV (n := 0) hk (j135_X12_tellQuery l D zt r g I26070 A26070 L26070  hV26070 (by first | (rw [show (I26070 15) = (I 15) from (hI26070 15 rfl), show (I26070 16) = (I 16) from (hI26070 16 rfl)] <;> omega) | omega) (by first | (rw [show (I26070 16) = (I 16) from (hI26070 16 rfl), show (A26070 10 0) = (A 10 0) from (congrFun (hA26070 10 rfl) _)] <;> omega) | omega) (by first | (rw [show (I26070 16) = (I 16) from (hI26070 16 rfl), show (A26070 10 1) = (A 10 1) from (congrFun (hA26070 10 rfl) _)] <;> omega) | omega)) (SP.same _) (fun _ h => h) (gi_V (List.mem_cons_of_mem _ (List.mem_append_left _ (List.mem_of_getElem? (i := 12) rfl))) (List.mem_cons_of_mem _ (List.mem_append_left _ (List.mem_of_getElem? (i := 13) rfl))) (List.mem_cons_of_mem _ (List.mem_append_left _ (List.mem_of_getElem? (i := 14) rfl))) (List.mem_cons_of_mem _ (List.mem_append_left _ (List.mem_of_getElem? (i := 5) rfl))) (gi_sub (fun w h => (List.mem_cons_of_mem _ (List.mem_append_right _ (List.mem_append_right _ (List.mem_append_right _ (List.mem_append_right _ (List.mem_append_left _ h))))))) zg_j135_X12_tellQuery)) rfl rfl rfl (by decide +kernel) ⟨Nat.le_of_ble_eq_true rfl, Nat.le_of_ble_eq_true rfl⟩ 0 rfl rfl rfl rfl (Nat.le_of_ble_eq_true rfl) ⟨Nat.le_of_ble_eq_true rfl, Nat.le_of_ble_eq_true rfl⟩ dX12_tellOne_103 (fun v ty' w' hp hk' => ?_)
            obtain ⟨I26082, A26082, L26082, hI26082, hA26082, hV26082, r26083, r26084, r26085, hC, rfl, rfl⟩ := hp
            replace hF := FE.bdM hF hC
            have f26086 := IvM_f4 hV26082
            have f26087 := IvM_f6 hV26082
            have f26088 := IvM_f8 hV26082
            rw [show (I26070 8) = (I 8) from (hI26070 8 rfl)] at r26085
            show GW κ 1 0 0 (wM r g I26082 A26082 L26082) 106 [(0, .ref (r 0))] []
            refine g_goto (tgt := 190) hk dX12_tellOne_106 (by decide) ?_
            exact g_vret hk hR ⟨I26082, A26082, L26082, (show Md [4, 6, 7, 8, 9, 11, 12, 13, 17] I I26082 from (Md.tr (Md.tr Md.rf hI26070 rfl) hI26082 rfl)), (show Md [8, 9, 10, 11, 12, 13, 14, 15, 16] A A26082 from (Md.tr (Md.tr Md.rf hA26070 rfl) hA26082 rfl)), hV26082, (by omega), (by omega), (by omega), (by omega), hF, rfl, rfl⟩ dX12_tellOne_190
      · skip
        replace hF := FE.neg hF c26065
        refine g_aload_n hk dX12_tellOne_79 rfl ?_
        refine g_iconst (v := 2) hk dX12_tellOne_80 (by decide) ?_
        have k26089 : (2 : Int32).toInt = 2 := rfl
        refine g_callV (n := 1) hk (j128_X12_fail l D zt r g I A L 2 hIv (by decide) (by decide)) (SP.same _) (fun _ h => h) (gi_V (List.mem_cons_of_mem _ (List.mem_append_left _ (List.mem_of_getElem? (i := 15) rfl))) (List.mem_cons_of_mem _ (List.mem_append_left _ (List.mem_of_getElem? (i := 16) rfl))) (List.mem_cons_of_mem _ (List.mem_append_left _ (List.mem_of_getElem? (i := 17) rfl))) (List.mem_cons_of_mem _ (List.mem_append_left _ (List.mem_of_getElem? (i := 5) rfl))) (gi_sub (fun w h => (List.mem_cons_of_mem _ (List.mem_append_right _ (List.mem_append_right _ (List.mem_append_right _ (List.mem_append_right _ (List.mem_append_right _ (List.mem_append_left _ h)))))))) zg_j128_X12_fail)) rfl rfl rfl (by decide +kernel) ⟨Nat.le_of_ble_eq_true rfl, Nat.le_of_ble_eq_true rfl⟩ 0 rfl rfl rfl rfl (Nat.le_of_ble_eq_true rfl) ⟨Nat.le_of_ble_eq_true rfl, Nat.le_of_ble_eq_true rfl⟩ dX12_tellOne_81 (fun v ty' w' hp hk' => ?_)
        obtain ⟨I26091, A26091, L26091, hI26091, hA26091, hV26091, r26092, r26093, r26094, hL26091, hC, rfl, rfl⟩ := hp
        replace hF := FE.bdM hF hC
        have f26095 := IvM_f6 hIv
        have f26096 := IvM_f6 hV26091
        have f26097 := IvM_f8 hIv
        rw [show (I26091 8) = (I 8) from (hI26091 8 rfl)] at r26093
        show GW κ 1 0 0 (wM r g I26091 A26091 L26091) 84 [(0, .ref (r 0))] []
        refine g_aload_n hk dX12_tellOne_84 rfl ?_
        refine gM_i6 (v := (I26091 6)) hk hin12 (List.mem_cons_of_mem _ (List.mem_append_left _ (List.mem_of_getElem? (i := 6) rfl))) dX12_tellOne_85 rfl ?_
        refine g_if_ne (tgt := 95) (a := (I26091 6).toInt) hk dX12_tellOne_88 (by decide) rfl (fun c26098 => ?_) (fun c26098 => ?_)
        · skip
          replace hF := FE.pos hF c26098
          refine g_aload_n hk dX12_tellOne_95 rfl ?_
          refine gM_i6 (v := (I26091 6)) hk hin12 (List.mem_cons_of_mem _ (List.mem_append_left _ (List.mem_of_getElem? (i := 6) rfl))) dX12_tellOne_96 rfl ?_
          refine g_if_ne (tgt := 190) (a := (I26091 6).toInt) hk dX12_tellOne_99 (by decide) rfl (fun _ => ?_) (fun z9 => absurd (show (I26091 6).toInt ≠ 0 from by omega) z9)
          exact g_vret hk hR ⟨I26091, A26091, L26091, (show Md [4, 6, 7, 8, 9, 11, 12, 13, 17] I I26091 from (Md.tr Md.rf hI26091 rfl)), (show Md [8, 9, 10, 11, 12, 13, 14, 15, 16] A A26091 from (Md.tr Md.rf hA26091 rfl)), hV26091, (by rw [show (I26091 4) = (I 4) from (hI26091 4 rfl)] <;> omega), (by omega), (by rw [show (I26091 8) = (I 8) from (hI26091 8 rfl)] <;> omega), (by rw [show (I26091 4) = (I 4) from (hI26091 4 rfl)] <;> omega), hF, rfl, rfl⟩ dX12_tellOne_190
        · skip
          replace hF := FE.neg hF c26098
          refine g_aload_n hk dX12_tellOne_91 rfl ?_
          refine g_callV (n := 0) hk (j127_X12_goesOn l D zt r g I26091 A26091 L26091  hV26091) (SP.same _) (fun _ h => h) (gi_V (List.mem_cons_of_mem _ (List.mem_append_left _ (List.mem_of_getElem? (i := 2) rfl))) (List.mem_cons_of_mem _ (List.mem_append_left _ (List.mem_of_getElem? (i := 3) rfl))) (List.mem_cons_of_mem _ (List.mem_append_left _ (List.mem_of_getElem? (i := 4) rfl))) (List.mem_cons_of_mem _ (List.mem_append_left _ (List.mem_of_getElem? (i := 5) rfl))) (gi_sub (fun w h => (List.mem_cons_of_mem _ (List.mem_append_right _ (List.mem_append_right _ (List.mem_append_left _ h))))) zg_j127_X12_goesOn)) rfl rfl rfl (by decide +kernel) ⟨Nat.le_of_ble_eq_true rfl, Nat.le_of_ble_eq_true rfl⟩ 0 rfl rfl rfl rfl (Nat.le_of_ble_eq_true rfl) ⟨Nat.le_of_ble_eq_true rfl, Nat.le_of_ble_eq_true rfl⟩ dX12_tellOne_92 (fun v ty' w' hp hk' => ?_)
          obtain ⟨I26100, A26100, L26100, hI26100, hA26100, hV26100, r26101, r26102, r26103, r26104, hL26100, hC, rfl, rfl⟩ := hp
          replace hF := FE.bdM hF hC
          have f26105 := IvM_f4 hV26100
          rw [show (I26091 4) = (I 4) from (hI26091 4 rfl)] at r26101
          have f26106 := IvM_f6 hV26100
          rw [show (I26091 8) = (I 8) from (hI26091 8 rfl), show (I26100 8) = (I 8) from ((hI26100 8 rfl).trans (hI26091 8 rfl))] at r26103
          rw [show (I26091 4) = (I 4) from (hI26091 4 rfl)] at r26104
          show GW κ 1 0 0 (wM r g I26100 A26100 L26100) 95 [(0, .ref (r 0))] []
          refine g_aload_n hk dX12_tellOne_95 rfl ?_
          refine gM_i6 (v := (I26100 6)) hk hin12 (List.mem_cons_of_mem _ (List.mem_append_left _ (List.mem_of_getElem? (i := 6) rfl))) dX12_tellOne_96 rfl ?_
          refine g_if_ne (tgt := 190) (a := (I26100 6).toInt) hk dX12_tellOne_99 (by decide) rfl (fun c26107 => ?_) (fun c26107 => ?_)
          · skip
            replace hF := FE.pos hF c26107
            exact g_vret hk hR ⟨I26100, A26100, L26100, (show Md [4, 6, 7, 8, 9, 11, 12, 13, 17] I I26100 from (Md.tr (Md.tr Md.rf hI26091 rfl) hI26100 rfl)), (show Md [8, 9, 10, 11, 12, 13, 14, 15, 16] A A26100 from (Md.tr (Md.tr Md.rf hA26091 rfl) hA26100 rfl)), hV26100, (by omega), (by omega), (by rw [show (I26100 8) = (I 8) from ((hI26100 8 rfl).trans (hI26091 8 rfl))] <;> omega), (by omega), hF, rfl, rfl⟩ dX12_tellOne_190
          · skip
            replace hF := FE.neg hF c26107
            refine g_aload_n hk dX12_tellOne_102 rfl ?_
            have f26108 := IvM_f15 hIv
            have f26109 := IvM_s10_0 hIv
            refine g_callV (n := 0) hk (j135_X12_tellQuery l D zt r g I26100 A26100 L26100  hV26100 (by first | (rw [show (I26100 15) = (I 15) from ((hI26100 15 rfl).trans (hI26091 15 rfl)), show (I26100 16) = (I 16) from ((hI26100 16 rfl).trans (hI26091 16 rfl))] <;> omega) | omega) (by first | (rw [show (I26100 16) = (I 16) from ((hI26100 16 rfl).trans (hI26091 16 rfl)), show (A26100 10 0) = (A 10 0) from ((congrFun (hA26100 10 rfl) _).trans (congrFun (hA26091 10 rfl) _))] <;> omega) | omega) (by first | (rw [show (I26100 16) = (I 16) from ((hI26100 16 rfl).trans (hI26091 16 rfl)), show (A26100 10 1) = (A 10 1) from ((congrFun (hA26100 10 rfl) _).trans (congrFun (hA26091 10 rfl) _))] <;> omega) | omega)) (SP.same _) (fun _ h => h) (gi_V (List.mem_cons_of_mem _ (List.mem_append_left _ (List.mem_of_getElem? (i := 12) rfl))) (List.mem_cons_of_mem _ (List.mem_append_left _ (List.mem_of_getElem? (i := 13) rfl))) (List.mem_cons_of_mem _ (List.mem_append_left _ (List.mem_of_getElem? (i := 14) rfl))) (List.mem_cons_of_mem _ (List.mem_append_left _ (List.mem_of_getElem? (i := 5) rfl))) (gi_sub (fun w h => (List.mem_cons_of_mem _ (List.mem_append_right _ (List.mem_append_right _ (List.mem_append_right _ (List.mem_append_right _ (List.mem_append_left _ h))))))) zg_j135_X12_tellQuery)) rfl rfl rfl (by decide +kernel) ⟨Nat.le_of_ble_eq_true rfl, Nat.le_of_ble_eq_true rfl⟩ 0 rfl rfl rfl rfl (Nat.le_of_ble_eq_true rfl) ⟨Nat.le_of_ble_eq_true rfl, Nat.le_of_ble_eq_true rfl⟩ dX12_tellOne_103 (fun v ty' w' hp hk' => ?_)
            obtain ⟨I26111, A26111, L26111, hI26111, hA26111, hV26111, r26112, r26113, r26114, hC, rfl, rfl⟩ := hp
            replace hF := FE.bdM hF hC
            have f26115 := IvM_f4 hV26111
            have f26116 := IvM_f6 hV26111
            have f26117 := IvM_f8 hV26111
            rw [show (I26100 8) = (I 8) from ((hI26100 8 rfl).trans (hI26091 8 rfl))] at r26114
            show GW κ 1 0 0 (wM r g I26111 A26111 L26111) 106 [(0, .ref (r 0))] []
            refine g_goto (tgt := 190) hk dX12_tellOne_106 (by decide) ?_
            exact g_vret hk hR ⟨I26111, A26111, L26111, (show Md [4, 6, 7, 8, 9, 11, 12, 13, 17] I I26111 from (Md.tr (Md.tr (Md.tr Md.rf hI26091 rfl) hI26100 rfl) hI26111 rfl)), (show Md [8, 9, 10, 11, 12, 13, 14, 15, 16] A A26111 from (Md.tr (Md.tr (Md.tr Md.rf hA26091 rfl) hA26100 rfl) hA26111 rfl)), hV26111, (by omega), (by omega), (by omega), (by omega), hF, rfl, rfl⟩ dX12_tellOne_190
    replace hF := FE.neg hF c26063
    exfalso; omega
  replace hF := FE.neg hF c16799
  by_cases c26118 : (A 2 (I 4).toNatClampNeg).toInt = 22
  · refine g_tabIn (tgt := 109) (a := 22) hk dX12_tellOne_9 c26118 (by decide) (by decide) rfl (by decide) ?_
    replace hF := FE.pos hF c26118
    refine g_aload_n hk dX12_tellOne_109 rfl ?_
    refine gM_r0_31 hk hin12 (List.mem_cons_of_mem _ (List.mem_append_left _ (List.mem_of_getElem? (i := 18) rfl))) dX12_tellOne_110 ?_
    refine g_aload_n hk dX12_tellOne_113 rfl ?_
    refine gM_i16 (v := (I 16)) hk hin12 (List.mem_cons_of_mem _ (List.mem_append_left _ (List.mem_of_getElem? (i := 11) rfl))) dX12_tellOne_114 rfl ?_
    have f26119 := IvM_f16 hIv
    by_cases c26120 : (I 16).toInt = 0
    · have ec26120 : (I 16) = 0 := Int32.toInt_inj.mp c26120
      replace hF := FE.pos hF c26120
      rw [ec26120]
      show GW κ 1 0 0 (wM r g I A L) 117 [(0, .ref (r 0))] [.int 0, .ref (r 14)]
      refine g_aload_n hk dX12_tellOne_117 rfl ?_
      refine g_iconst (v := 0) hk dX12_tellOne_118 (by decide) ?_
      refine g_bipush (v := 15) hk dX12_tellOne_119 (by decide) ?_
      have k26154 : (0 : Int32).toInt = 0 := rfl
      have k26155 : (15 : Int32).toInt = 15 := rfl
      refine g_callV (n := 2) hk (j136_X12_toldInt l D zt r g I A L 0 15 hIv) (SP.same _) (fun _ h => h) (gi_V (List.mem_cons_of_mem _ (List.mem_append_left _ (List.mem_of_getElem? (i := 19) rfl))) (List.mem_cons_of_mem _ (List.mem_append_left _ (List.mem_of_getElem? (i := 20) rfl))) (List.mem_cons_of_mem _ (List.mem_append_left _ (List.mem_of_getElem? (i := 21) rfl))) (List.mem_cons_of_mem _ (List.mem_append_left _ (List.mem_of_getElem? (i := 5) rfl))) (gi_sub (fun w h => (List.mem_cons_of_mem _ (List.mem_append_right _ (List.mem_append_right _ (List.mem_append_right _ (List.mem_append_right _ (List.mem_append_right _ (List.mem_append_right _ (List.mem_append_left _ h))))))))) zg_j136_X12_toldInt)) rfl rfl rfl (by decide +kernel) ⟨Nat.le_of_ble_eq_true rfl, Nat.le_of_ble_eq_true rfl⟩ 0 rfl rfl rfl rfl (Nat.le_of_ble_eq_true rfl) ⟨Nat.le_of_ble_eq_true rfl, Nat.le_of_ble_eq_true rfl⟩ dX12_tellOne_121 (fun v ty' w' hp hk' => ?_)
      obtain ⟨I26157, A26157, L26157, hI26157, hA26157, hV26157, y26156, r26158, r26159, r26160, r26161, r26162, hL26157, hC, rfl, rfl⟩ := hp
      replace hF := FE.bdM hF hC
      have f26163 := IvM_f4 hV26157
      have f26164 := IvM_f6 hIv
      have f26165 := IvM_f6 hV26157
      have f26166 := IvM_f8 hIv
      have f26167 := IvM_f8 hV26157
      have b26168l := Int32.le_toInt y26156
      have b26168h := Int32.toInt_lt y26156
      show GW κ 1 0 0 (wM r g I26157 A26157 L26157) 124 [(0, .ref (r 0))] [.int y26156, .int 0, .ref (r 14)]
      refine sM_13 (j := 0) hk (vp_in_iff.mpr ⟨by decide, by decide⟩) (by decide) dX12_tellOne_124 ?_
      refine g_goto (tgt := 190) hk dX12_tellOne_125 (by decide) ?_
      exact g_vret hk hR ⟨I26157, (up3 A26157 13 0 y26156), L26157, (show Md [4, 6, 7, 8, 9, 11, 12, 13, 17] I I26157 from (Md.tr Md.rf hI26157 rfl)), (show Md [8, 9, 10, 11, 12, 13, 14, 15, 16] A (up3 A26157 13 0 y26156) from (Md.up3 (Md.tr Md.rf hA26157 rfl) rfl)), ⟨(IvM_f1 (I := I26157) (A := A26157) hV26157), (IvM_f2 (I := I26157) (A := A26157) hV26157), (IvM_f3 (I := I26157) (A := A26157) hV26157), (IvM_f4 (I := I26157) (A := A26157) hV26157), (IvM_f6 (I := I26157) (A := A26157) hV26157), (IvM_f8 (I := I26157) (A := A26157) hV26157), (IvM_f15 (I := I26157) (A := A26157) hV26157), (IvM_f16 (I := I26157) (A := A26157) hV26157), (IvM_f17 (I := I26157) (A := A26157) hV26157), (IvM_f18 (I := I26157) (A := A26157) hV26157), (IvM_f22 (I := I26157) (A := A26157) hV26157), (IvM_f23 (I := I26157) (A := A26157) hV26157), (IvM_f24 (I := I26157) (A := A26157) hV26157), (IvM_a11 (I := I26157) (A := A26157) hV26157), (IvM_a26 (I := I26157) (A := A26157) hV26157), (IvM_s8_0 (I := I26157) (A := A26157) hV26157), (IvM_s8_1 (I := I26157) (A := A26157) hV26157), (IvM_s10_0 (I := I26157) (A := A26157) hV26157), (IvM_s10_1 (I := I26157) (A := A26157) hV26157), (IvM_s17_0 (I := I26157) (A := A26157) hV26157), (IvM_s17_164 (I := I26157) (A := A26157) hV26157), (IvM_lv (I := I26157) (A := A26157) hV26157), (IvM_sd (I := I26157) (A := A26157) hV26157), (IvM_nq (I := I26157) (A := A26157) hV26157), (IvM_hr (I := I26157) (A := A26157) hV26157), (IvM_hh (I := I26157) (A := A26157) hV26157), trivial⟩, (by omega), (by omega), (by omega), (by omega), hF, rfl, rfl⟩ dX12_tellOne_190
    replace hF := FE.neg hF c26120
    by_cases c26169 : (I 16).toInt = 1
    · have ec26169 : (I 16) = 1 := Int32.toInt_inj.mp c26169
      replace hF := FE.pos hF c26169
      rw [ec26169]
      show GW κ 1 0 0 (wM r g I A L) 117 [(0, .ref (r 0))] [.int 1, .ref (r 14)]
      refine g_aload_n hk dX12_tellOne_117 rfl ?_
      refine g_iconst (v := 0) hk dX12_tellOne_118 (by decide) ?_
      refine g_bipush (v := 15) hk dX12_tellOne_119 (by decide) ?_
      have k26170 : (0 : Int32).toInt = 0 := rfl
      have k26171 : (15 : Int32).toInt = 15 := rfl
      refine g_callV (n := 2) hk (j136_X12_toldInt l D zt r g I A L 0 15 hIv) (SP.same _) (fun _ h => h) (gi_V (List.mem_cons_of_mem _ (List.mem_append_left _ (List.mem_of_getElem? (i := 19) rfl))) (List.mem_cons_of_mem _ (List.mem_append_left _ (List.mem_of_getElem? (i := 20) rfl))) (List.mem_cons_of_mem _ (List.mem_append_left _ (List.mem_of_getElem? (i := 21) rfl))) (List.mem_cons_of_mem _ (List.mem_append_left _ (List.mem_of_getElem? (i := 5) rfl))) (gi_sub (fun w h => (List.mem_cons_of_mem _ (List.mem_append_right _ (List.mem_append_right _ (List.mem_append_right _ (List.mem_append_right _ (List.mem_append_right _ (List.mem_append_right _ (List.mem_append_left _ h))))))))) zg_j136_X12_toldInt)) rfl rfl rfl (by decide +kernel) ⟨Nat.le_of_ble_eq_true rfl, Nat.le_of_ble_eq_true rfl⟩ 0 rfl rfl rfl rfl (Nat.le_of_ble_eq_true rfl) ⟨Nat.le_of_ble_eq_true rfl, Nat.le_of_ble_eq_true rfl⟩ dX12_tellOne_121 (fun v ty' w' hp hk' => ?_)
      obtain ⟨I26173, A26173, L26173, hI26173, hA26173, hV26173, y26172, r26174, r26175, r26176, r26177, r26178, hL26173, hC, rfl, rfl⟩ := hp
      replace hF := FE.bdM hF hC
      have f26179 := IvM_f4 hV26173
      have f26180 := IvM_f6 hIv
      have f26181 := IvM_f6 hV26173
      have f26182 := IvM_f8 hIv
      have f26183 := IvM_f8 hV26173
      have b26184l := Int32.le_toInt y26172
      have b26184h := Int32.toInt_lt y26172
      show GW κ 1 0 0 (wM r g I26173 A26173 L26173) 124 [(0, .ref (r 0))] [.int y26172, .int 1, .ref (r 14)]
      refine sM_13 (j := 1) hk (vp_in_iff.mpr ⟨by decide, by decide⟩) (by decide) dX12_tellOne_124 ?_
      refine g_goto (tgt := 190) hk dX12_tellOne_125 (by decide) ?_
      exact g_vret hk hR ⟨I26173, (up3 A26173 13 1 y26172), L26173, (show Md [4, 6, 7, 8, 9, 11, 12, 13, 17] I I26173 from (Md.tr Md.rf hI26173 rfl)), (show Md [8, 9, 10, 11, 12, 13, 14, 15, 16] A (up3 A26173 13 1 y26172) from (Md.up3 (Md.tr Md.rf hA26173 rfl) rfl)), ⟨(IvM_f1 (I := I26173) (A := A26173) hV26173), (IvM_f2 (I := I26173) (A := A26173) hV26173), (IvM_f3 (I := I26173) (A := A26173) hV26173), (IvM_f4 (I := I26173) (A := A26173) hV26173), (IvM_f6 (I := I26173) (A := A26173) hV26173), (IvM_f8 (I := I26173) (A := A26173) hV26173), (IvM_f15 (I := I26173) (A := A26173) hV26173), (IvM_f16 (I := I26173) (A := A26173) hV26173), (IvM_f17 (I := I26173) (A := A26173) hV26173), (IvM_f18 (I := I26173) (A := A26173) hV26173), (IvM_f22 (I := I26173) (A := A26173) hV26173), (IvM_f23 (I := I26173) (A := A26173) hV26173), (IvM_f24 (I := I26173) (A := A26173) hV26173), (IvM_a11 (I := I26173) (A := A26173) hV26173), (IvM_a26 (I := I26173) (A := A26173) hV26173), (IvM_s8_0 (I := I26173) (A := A26173) hV26173), (IvM_s8_1 (I := I26173) (A := A26173) hV26173), (IvM_s10_0 (I := I26173) (A := A26173) hV26173), (IvM_s10_1 (I := I26173) (A := A26173) hV26173), (IvM_s17_0 (I := I26173) (A := A26173) hV26173), (IvM_s17_164 (I := I26173) (A := A26173) hV26173), (IvM_lv (I := I26173) (A := A26173) hV26173), (IvM_sd (I := I26173) (A := A26173) hV26173), (IvM_nq (I := I26173) (A := A26173) hV26173), (IvM_hr (I := I26173) (A := A26173) hV26173), (IvM_hh (I := I26173) (A := A26173) hV26173), trivial⟩, (by omega), (by omega), (by omega), (by omega), hF, rfl, rfl⟩ dX12_tellOne_190
    replace hF := FE.neg hF c26169
    exfalso; omega
  replace hF := FE.neg hF c26118
  by_cases c26185 : (A 2 (I 4).toNatClampNeg).toInt = 23
  · refine g_tabIn (tgt := 128) (a := 23) hk dX12_tellOne_9 c26185 (by decide) (by decide) rfl (by decide) ?_
    replace hF := FE.pos hF c26185
    refine g_aload_n hk dX12_tellOne_128 rfl ?_
    refine gM_r0_32 hk hin12 (List.mem_cons_of_mem _ (List.mem_append_left _ (List.mem_of_getElem? (i := 22) rfl))) dX12_tellOne_129 ?_
    refine g_aload_n hk dX12_tellOne_132 rfl ?_
    refine gM_i16 (v := (I 16)) hk hin12 (List.mem_cons_of_mem _ (List.mem_append_left _ (List.mem_of_getElem? (i := 11) rfl))) dX12_tellOne_133 rfl ?_
    have f26186 := IvM_f16 hIv
    by_cases c26187 : (I 16).toInt = 0
    · have ec26187 : (I 16) = 0 := Int32.toInt_inj.mp c26187
      replace hF := FE.pos hF c26187
      rw [ec26187]
      show GW κ 1 0 0 (wM r g I A L) 136 [(0, .ref (r 0))] [.int 0, .ref (r 15)]
      refine g_aload_n hk dX12_tellOne_136 rfl ?_
      refine g_bipush (v := 27) hk dX12_tellOne_137 (by decide) ?_
      refine g_iconst (v := 4) hk dX12_tellOne_139 (by decide) ?_
      have k26333 : (27 : Int32).toInt = 27 := rfl
      have k26334 : (4 : Int32).toInt = 4 := rfl
      refine g_callV (n := 2) hk (j137_X12_toldWord l D zt r g I A L 27 4 hIv) (SP.same _) (fun _ h => h) (gi_V (List.mem_cons_of_mem _ (List.mem_append_left _ (List.mem_of_getElem? (i := 23) rfl))) (List.mem_cons_of_mem _ (List.mem_append_left _ (List.mem_of_getElem? (i := 24) rfl))) (List.mem_cons_of_mem _ (List.mem_append_left _ (List.mem_of_getElem? (i := 25) rfl))) (List.mem_cons_of_mem _ (List.mem_append_left _ (List.mem_of_getElem? (i := 5) rfl))) (gi_sub (fun w h => (List.mem_cons_of_mem _ (List.mem_append_right _ (List.mem_append_right _ (List.mem_append_right _ (List.mem_append_right _ (List.mem_append_right _ (List.mem_append_right _ (List.mem_append_right _ (List.mem_append_left _ h)))))))))) zg_j137_X12_toldWord)) rfl rfl rfl (by decide +kernel) ⟨Nat.le_of_ble_eq_true rfl, Nat.le_of_ble_eq_true rfl⟩ 0 rfl rfl rfl rfl (Nat.le_of_ble_eq_true rfl) ⟨Nat.le_of_ble_eq_true rfl, Nat.le_of_ble_eq_true rfl⟩ dX12_tellOne_140 (fun v ty' w' hp hk' => ?_)
      obtain ⟨I26336, A26336, L26336, hI26336, hA26336, hV26336, y26335, r26337, r26338, r26339, r26340, hL26336, hC, rfl, rfl⟩ := hp
      replace hF := FE.bdM hF hC
      have f26341 := IvM_f4 hV26336
      have f26342 := IvM_f6 hIv
      have f26343 := IvM_f6 hV26336
      have f26344 := IvM_f8 hIv
      rw [show (I26336 8) = (I 8) from (hI26336 8 rfl)] at r26339
      show GW κ 1 0 0 (wM r g I26336 A26336 L26336) 143 [(0, .ref (r 0))] [.int y26335, .int 0, .ref (r 15)]
      refine sM_14 (j := 0) hk (vp_in_iff.mpr ⟨by decide, by decide⟩) (by decide) dX12_tellOne_143 ?_
      refine g_goto (tgt := 190) hk dX12_tellOne_144 (by decide) ?_
      exact g_vret hk hR ⟨I26336, (up3 A26336 14 0 y26335), L26336, (show Md [4, 6, 7, 8, 9, 11, 12, 13, 17] I I26336 from (Md.tr Md.rf hI26336 rfl)), (show Md [8, 9, 10, 11, 12, 13, 14, 15, 16] A (up3 A26336 14 0 y26335) from (Md.up3 (Md.tr Md.rf hA26336 rfl) rfl)), ⟨(IvM_f1 (I := I26336) (A := A26336) hV26336), (IvM_f2 (I := I26336) (A := A26336) hV26336), (IvM_f3 (I := I26336) (A := A26336) hV26336), (IvM_f4 (I := I26336) (A := A26336) hV26336), (IvM_f6 (I := I26336) (A := A26336) hV26336), (IvM_f8 (I := I26336) (A := A26336) hV26336), (IvM_f15 (I := I26336) (A := A26336) hV26336), (IvM_f16 (I := I26336) (A := A26336) hV26336), (IvM_f17 (I := I26336) (A := A26336) hV26336), (IvM_f18 (I := I26336) (A := A26336) hV26336), (IvM_f22 (I := I26336) (A := A26336) hV26336), (IvM_f23 (I := I26336) (A := A26336) hV26336), (IvM_f24 (I := I26336) (A := A26336) hV26336), (IvM_a11 (I := I26336) (A := A26336) hV26336), (IvM_a26 (I := I26336) (A := A26336) hV26336), (IvM_s8_0 (I := I26336) (A := A26336) hV26336), (IvM_s8_1 (I := I26336) (A := A26336) hV26336), (IvM_s10_0 (I := I26336) (A := A26336) hV26336), (IvM_s10_1 (I := I26336) (A := A26336) hV26336), (IvM_s17_0 (I := I26336) (A := A26336) hV26336), (IvM_s17_164 (I := I26336) (A := A26336) hV26336), (IvM_lv (I := I26336) (A := A26336) hV26336), (IvM_sd (I := I26336) (A := A26336) hV26336), (IvM_nq (I := I26336) (A := A26336) hV26336), (IvM_hr (I := I26336) (A := A26336) hV26336), (IvM_hh (I := I26336) (A := A26336) hV26336), trivial⟩, (by omega), (by omega), (by rw [show (I26336 8) = (I 8) from (hI26336 8 rfl)] <;> omega), (by omega), hF, rfl, rfl⟩ dX12_tellOne_190
    replace hF := FE.neg hF c26187
    by_cases c26345 : (I 16).toInt = 1
    · have ec26345 : (I 16) = 1 := Int32.toInt_inj.mp c26345
      replace hF := FE.pos hF c26345
      rw [ec26345]
      show GW κ 1 0 0 (wM r g I A L) 136 [(0, .ref (r 0))] [.int 1, .ref (r 15)]
      refine g_aload_n hk dX12_tellOne_136 rfl ?_
      refine g_bipush (v := 27) hk dX12_tellOne_137 (by decide) ?_
      refine g_iconst (v := 4) hk dX12_tellOne_139 (by decide) ?_
      have k26346 : (27 : Int32).toInt = 27 := rfl
      have k26347 : (4 : Int32).toInt = 4 := rfl
      refine g_callV (n := 2) hk (j137_X12_toldWord l D zt r g I A L 27 4 hIv) (SP.same _) (fun _ h => h) (gi_V (List.mem_cons_of_mem _ (List.mem_append_left _ (List.mem_of_getElem? (i := 23) rfl))) (List.mem_cons_of_mem _ (List.mem_append_left _ (List.mem_of_getElem? (i := 24) rfl))) (List.mem_cons_of_mem _ (List.mem_append_left _ (List.mem_of_getElem? (i := 25) rfl))) (List.mem_cons_of_mem _ (List.mem_append_left _ (List.mem_of_getElem? (i := 5) rfl))) (gi_sub (fun w h => (List.mem_cons_of_mem _ (List.mem_append_right _ (List.mem_append_right _ (List.mem_append_right _ (List.mem_append_right _ (List.mem_append_right _ (List.mem_append_right _ (List.mem_append_right _ (List.mem_append_left _ h)))))))))) zg_j137_X12_toldWord)) rfl rfl rfl (by decide +kernel) ⟨Nat.le_of_ble_eq_true rfl, Nat.le_of_ble_eq_true rfl⟩ 0 rfl rfl rfl rfl (Nat.le_of_ble_eq_true rfl) ⟨Nat.le_of_ble_eq_true rfl, Nat.le_of_ble_eq_true rfl⟩ dX12_tellOne_140 (fun v ty' w' hp hk' => ?_)
      obtain ⟨I26349, A26349, L26349, hI26349, hA26349, hV26349, y26348, r26350, r26351, r26352, r26353, hL26349, hC, rfl, rfl⟩ := hp
      replace hF := FE.bdM hF hC
      have f26354 := IvM_f4 hV26349
      have f26355 := IvM_f6 hIv
      have f26356 := IvM_f6 hV26349
      have f26357 := IvM_f8 hIv
      rw [show (I26349 8) = (I 8) from (hI26349 8 rfl)] at r26352
      show GW κ 1 0 0 (wM r g I26349 A26349 L26349) 143 [(0, .ref (r 0))] [.int y26348, .int 1, .ref (r 15)]
      refine sM_14 (j := 1) hk (vp_in_iff.mpr ⟨by decide, by decide⟩) (by decide) dX12_tellOne_143 ?_
      refine g_goto (tgt := 190) hk dX12_tellOne_144 (by decide) ?_
      exact g_vret hk hR ⟨I26349, (up3 A26349 14 1 y26348), L26349, (show Md [4, 6, 7, 8, 9, 11, 12, 13, 17] I I26349 from (Md.tr Md.rf hI26349 rfl)), (show Md [8, 9, 10, 11, 12, 13, 14, 15, 16] A (up3 A26349 14 1 y26348) from (Md.up3 (Md.tr Md.rf hA26349 rfl) rfl)), ⟨(IvM_f1 (I := I26349) (A := A26349) hV26349), (IvM_f2 (I := I26349) (A := A26349) hV26349), (IvM_f3 (I := I26349) (A := A26349) hV26349), (IvM_f4 (I := I26349) (A := A26349) hV26349), (IvM_f6 (I := I26349) (A := A26349) hV26349), (IvM_f8 (I := I26349) (A := A26349) hV26349), (IvM_f15 (I := I26349) (A := A26349) hV26349), (IvM_f16 (I := I26349) (A := A26349) hV26349), (IvM_f17 (I := I26349) (A := A26349) hV26349), (IvM_f18 (I := I26349) (A := A26349) hV26349), (IvM_f22 (I := I26349) (A := A26349) hV26349), (IvM_f23 (I := I26349) (A := A26349) hV26349), (IvM_f24 (I := I26349) (A := A26349) hV26349), (IvM_a11 (I := I26349) (A := A26349) hV26349), (IvM_a26 (I := I26349) (A := A26349) hV26349), (IvM_s8_0 (I := I26349) (A := A26349) hV26349), (IvM_s8_1 (I := I26349) (A := A26349) hV26349), (IvM_s10_0 (I := I26349) (A := A26349) hV26349), (IvM_s10_1 (I := I26349) (A := A26349) hV26349), (IvM_s17_0 (I := I26349) (A := A26349) hV26349), (IvM_s17_164 (I := I26349) (A := A26349) hV26349), (IvM_lv (I := I26349) (A := A26349) hV26349), (IvM_sd (I := I26349) (A := A26349) hV26349), (IvM_nq (I := I26349) (A := A26349) hV26349), (IvM_hr (I := I26349) (A := A26349) hV26349), (IvM_hh (I := I26349) (A := A26349) hV26349), trivial⟩, (by omega), (by omega), (by rw [show (I26349 8) = (I 8) from (hI26349 8 rfl)] <;> omega), (by omega), hF, rfl, rfl⟩ dX12_tellOne_190
    replace hF := FE.neg hF c26345
    exfalso; omega
  replace hF := FE.neg hF c26185
  by_cases c26358 : (A 2 (I 4).toNatClampNeg).toInt = 24
  · refine g_tabIn (tgt := 147) (a := 24) hk dX12_tellOne_9 c26358 (by decide) (by decide) rfl (by decide) ?_
    replace hF := FE.pos hF c26358
    refine g_aload_n hk dX12_tellOne_147 rfl ?_
    refine gM_r0_33 hk hin12 (List.mem_cons_of_mem _ (List.mem_append_left _ (List.mem_of_getElem? (i := 26) rfl))) dX12_tellOne_148 ?_
    refine g_aload_n hk dX12_tellOne_151 rfl ?_
    refine gM_i16 (v := (I 16)) hk hin12 (List.mem_cons_of_mem _ (List.mem_append_left _ (List.mem_of_getElem? (i := 11) rfl))) dX12_tellOne_152 rfl ?_
    have f26359 := IvM_f16 hIv
    by_cases c26360 : (I 16).toInt = 0
    · have ec26360 : (I 16) = 0 := Int32.toInt_inj.mp c26360
      replace hF := FE.pos hF c26360
      rw [ec26360]
      show GW κ 1 0 0 (wM r g I A L) 155 [(0, .ref (r 0))] [.int 0, .ref (r 16)]
      refine g_aload_n hk dX12_tellOne_155 rfl ?_
      refine g_bipush (v := 31) hk dX12_tellOne_156 (by decide) ?_
      refine g_iconst (v := 2) hk dX12_tellOne_158 (by decide) ?_
      have k26361 : (31 : Int32).toInt = 31 := rfl
      have k26362 : (2 : Int32).toInt = 2 := rfl
      refine g_callV (n := 2) hk (j137_X12_toldWord l D zt r g I A L 31 2 hIv) (SP.same _) (fun _ h => h) (gi_V (List.mem_cons_of_mem _ (List.mem_append_left _ (List.mem_of_getElem? (i := 23) rfl))) (List.mem_cons_of_mem _ (List.mem_append_left _ (List.mem_of_getElem? (i := 24) rfl))) (List.mem_cons_of_mem _ (List.mem_append_left _ (List.mem_of_getElem? (i := 25) rfl))) (List.mem_cons_of_mem _ (List.mem_append_left _ (List.mem_of_getElem? (i := 5) rfl))) (gi_sub (fun w h => (List.mem_cons_of_mem _ (List.mem_append_right _ (List.mem_append_right _ (List.mem_append_right _ (List.mem_append_right _ (List.mem_append_right _ (List.mem_append_right _ (List.mem_append_right _ (List.mem_append_left _ h)))))))))) zg_j137_X12_toldWord)) rfl rfl rfl (by decide +kernel) ⟨Nat.le_of_ble_eq_true rfl, Nat.le_of_ble_eq_true rfl⟩ 0 rfl rfl rfl rfl (Nat.le_of_ble_eq_true rfl) ⟨Nat.le_of_ble_eq_true rfl, Nat.le_of_ble_eq_true rfl⟩ dX12_tellOne_159 (fun v ty' w' hp hk' => ?_)
      obtain ⟨I26364, A26364, L26364, hI26364, hA26364, hV26364, y26363, r26365, r26366, r26367, r26368, hL26364, hC, rfl, rfl⟩ := hp
      replace hF := FE.bdM hF hC
      have f26369 := IvM_f4 hV26364
      have f26370 := IvM_f6 hIv
      have f26371 := IvM_f6 hV26364
      have f26372 := IvM_f8 hIv
      rw [show (I26364 8) = (I 8) from (hI26364 8 rfl)] at r26367
      show GW κ 1 0 0 (wM r g I26364 A26364 L26364) 162 [(0, .ref (r 0))] [.int y26363, .int 0, .ref (r 16)]
      refine sM_15 (j := 0) hk (vp_in_iff.mpr ⟨by decide, by decide⟩) (by decide) dX12_tellOne_162 ?_
      refine g_goto (tgt := 190) hk dX12_tellOne_163 (by decide) ?_
      exact g_vret hk hR ⟨I26364, (up3 A26364 15 0 y26363), L26364, (show Md [4, 6, 7, 8, 9, 11, 12, 13, 17] I I26364 from (Md.tr Md.rf hI26364 rfl)), (show Md [8, 9, 10, 11, 12, 13, 14, 15, 16] A (up3 A26364 15 0 y26363) from (Md.up3 (Md.tr Md.rf hA26364 rfl) rfl)), ⟨(IvM_f1 (I := I26364) (A := A26364) hV26364), (IvM_f2 (I := I26364) (A := A26364) hV26364), (IvM_f3 (I := I26364) (A := A26364) hV26364), (IvM_f4 (I := I26364) (A := A26364) hV26364), (IvM_f6 (I := I26364) (A := A26364) hV26364), (IvM_f8 (I := I26364) (A := A26364) hV26364), (IvM_f15 (I := I26364) (A := A26364) hV26364), (IvM_f16 (I := I26364) (A := A26364) hV26364), (IvM_f17 (I := I26364) (A := A26364) hV26364), (IvM_f18 (I := I26364) (A := A26364) hV26364), (IvM_f22 (I := I26364) (A := A26364) hV26364), (IvM_f23 (I := I26364) (A := A26364) hV26364), (IvM_f24 (I := I26364) (A := A26364) hV26364), (IvM_a11 (I := I26364) (A := A26364) hV26364), (IvM_a26 (I := I26364) (A := A26364) hV26364), (IvM_s8_0 (I := I26364) (A := A26364) hV26364), (IvM_s8_1 (I := I26364) (A := A26364) hV26364), (IvM_s10_0 (I := I26364) (A := A26364) hV26364), (IvM_s10_1 (I := I26364) (A := A26364) hV26364), (IvM_s17_0 (I := I26364) (A := A26364) hV26364), (IvM_s17_164 (I := I26364) (A := A26364) hV26364), (IvM_lv (I := I26364) (A := A26364) hV26364), (IvM_sd (I := I26364) (A := A26364) hV26364), (IvM_nq (I := I26364) (A := A26364) hV26364), (IvM_hr (I := I26364) (A := A26364) hV26364), (IvM_hh (I := I26364) (A := A26364) hV26364), trivial⟩, (by omega), (by omega), (by rw [show (I26364 8) = (I 8) from (hI26364 8 rfl)] <;> omega), (by omega), hF, rfl, rfl⟩ dX12_tellOne_190
    replace hF := FE.neg hF c26360
    by_cases c26373 : (I 16).toInt = 1
    · have ec26373 : (I 16) = 1 := Int32.toInt_inj.mp c26373
      replace hF := FE.pos hF c26373
      rw [ec26373]
      show GW κ 1 0 0 (wM r g I A L) 155 [(0, .ref (r 0))] [.int 1, .ref (r 16)]
      refine g_aload_n hk dX12_tellOne_155 rfl ?_
      refine g_bipush (v := 31) hk dX12_tellOne_156 (by decide) ?_
      refine g_iconst (v := 2) hk dX12_tellOne_158 (by decide) ?_
      have k26374 : (31 : Int32).toInt = 31 := rfl
      have k26375 : (2 : Int32).toInt = 2 := rfl
      refine g_callV (n := 2) hk (j137_X12_toldWord l D zt r g I A L 31 2 hIv) (SP.same _) (fun _ h => h) (gi_V (List.mem_cons_of_mem _ (List.mem_append_left _ (List.mem_of_getElem? (i := 23) rfl))) (List.mem_cons_of_mem _ (List.mem_append_left _ (List.mem_of_getElem? (i := 24) rfl))) (List.mem_cons_of_mem _ (List.mem_append_left _ (List.mem_of_getElem? (i := 25) rfl))) (List.mem_cons_of_mem _ (List.mem_append_left _ (List.mem_of_getElem? (i := 5) rfl))) (gi_sub (fun w h => (List.mem_cons_of_mem _ (List.mem_append_right _ (List.mem_append_right _ (List.mem_append_right _ (List.mem_append_right _ (List.mem_append_right _ (List.mem_append_right _ (List.mem_append_right _ (List.mem_append_left _ h)))))))))) zg_j137_X12_toldWord)) rfl rfl rfl (by decide +kernel) ⟨Nat.le_of_ble_eq_true rfl, Nat.le_of_ble_eq_true rfl⟩ 0 rfl rfl rfl rfl (Nat.le_of_ble_eq_true rfl) ⟨Nat.le_of_ble_eq_true rfl, Nat.le_of_ble_eq_true rfl⟩ dX12_tellOne_159 (fun v ty' w' hp hk' => ?_)
      obtain ⟨I26377, A26377, L26377, hI26377, hA26377, hV26377, y26376, r26378, r26379, r26380, r26381, hL26377, hC, rfl, rfl⟩ := hp
      replace hF := FE.bdM hF hC
      have f26382 := IvM_f4 hV26377
      have f26383 := IvM_f6 hIv
      have f26384 := IvM_f6 hV26377
      have f26385 := IvM_f8 hIv
      rw [show (I26377 8) = (I 8) from (hI26377 8 rfl)] at r26380
      show GW κ 1 0 0 (wM r g I26377 A26377 L26377) 162 [(0, .ref (r 0))] [.int y26376, .int 1, .ref (r 16)]
      refine sM_15 (j := 1) hk (vp_in_iff.mpr ⟨by decide, by decide⟩) (by decide) dX12_tellOne_162 ?_
      refine g_goto (tgt := 190) hk dX12_tellOne_163 (by decide) ?_
      exact g_vret hk hR ⟨I26377, (up3 A26377 15 1 y26376), L26377, (show Md [4, 6, 7, 8, 9, 11, 12, 13, 17] I I26377 from (Md.tr Md.rf hI26377 rfl)), (show Md [8, 9, 10, 11, 12, 13, 14, 15, 16] A (up3 A26377 15 1 y26376) from (Md.up3 (Md.tr Md.rf hA26377 rfl) rfl)), ⟨(IvM_f1 (I := I26377) (A := A26377) hV26377), (IvM_f2 (I := I26377) (A := A26377) hV26377), (IvM_f3 (I := I26377) (A := A26377) hV26377), (IvM_f4 (I := I26377) (A := A26377) hV26377), (IvM_f6 (I := I26377) (A := A26377) hV26377), (IvM_f8 (I := I26377) (A := A26377) hV26377), (IvM_f15 (I := I26377) (A := A26377) hV26377), (IvM_f16 (I := I26377) (A := A26377) hV26377), (IvM_f17 (I := I26377) (A := A26377) hV26377), (IvM_f18 (I := I26377) (A := A26377) hV26377), (IvM_f22 (I := I26377) (A := A26377) hV26377), (IvM_f23 (I := I26377) (A := A26377) hV26377), (IvM_f24 (I := I26377) (A := A26377) hV26377), (IvM_a11 (I := I26377) (A := A26377) hV26377), (IvM_a26 (I := I26377) (A := A26377) hV26377), (IvM_s8_0 (I := I26377) (A := A26377) hV26377), (IvM_s8_1 (I := I26377) (A := A26377) hV26377), (IvM_s10_0 (I := I26377) (A := A26377) hV26377), (IvM_s10_1 (I := I26377) (A := A26377) hV26377), (IvM_s17_0 (I := I26377) (A := A26377) hV26377), (IvM_s17_164 (I := I26377) (A := A26377) hV26377), (IvM_lv (I := I26377) (A := A26377) hV26377), (IvM_sd (I := I26377) (A := A26377) hV26377), (IvM_nq (I := I26377) (A := A26377) hV26377), (IvM_hr (I := I26377) (A := A26377) hV26377), (IvM_hh (I := I26377) (A := A26377) hV26377), trivial⟩, (by omega), (by omega), (by rw [show (I26377 8) = (I 8) from (hI26377 8 rfl)] <;> omega), (by omega), hF, rfl, rfl⟩ dX12_tellOne_190
    replace hF := FE.neg hF c26373
    exfalso; omega
  replace hF := FE.neg hF c26358
  by_cases c26386 : (A 2 (I 4).toNatClampNeg).toInt = 25
  · refine g_tabIn (tgt := 166) (a := 25) hk dX12_tellOne_9 c26386 (by decide) (by decide) rfl (by decide) ?_
    replace hF := FE.pos hF c26386
    refine g_aload_n hk dX12_tellOne_166 rfl ?_
    refine gM_r0_34 hk hin12 (List.mem_cons_of_mem _ (List.mem_append_left _ (List.mem_of_getElem? (i := 27) rfl))) dX12_tellOne_167 ?_
    refine g_aload_n hk dX12_tellOne_170 rfl ?_
    refine gM_i16 (v := (I 16)) hk hin12 (List.mem_cons_of_mem _ (List.mem_append_left _ (List.mem_of_getElem? (i := 11) rfl))) dX12_tellOne_171 rfl ?_
    have f26387 := IvM_f16 hIv
    by_cases c26388 : (I 16).toInt = 0
    · have ec26388 : (I 16) = 0 := Int32.toInt_inj.mp c26388
      replace hF := FE.pos hF c26388
      rw [ec26388]
      show GW κ 1 0 0 (wM r g I A L) 174 [(0, .ref (r 0))] [.int 0, .ref (r 17)]
      refine g_aload_n hk dX12_tellOne_174 rfl ?_
      refine g_iconst (v := 1) hk dX12_tellOne_175 (by decide) ?_
      refine g_bipush (v := 99) hk dX12_tellOne_176 (by decide) ?_
      have k26389 : (1 : Int32).toInt = 1 := rfl
      have k26390 : (99 : Int32).toInt = 99 := rfl
      refine g_callV (n := 2) hk (j136_X12_toldInt l D zt r g I A L 1 99 hIv) (SP.same _) (fun _ h => h) (gi_V (List.mem_cons_of_mem _ (List.mem_append_left _ (List.mem_of_getElem? (i := 19) rfl))) (List.mem_cons_of_mem _ (List.mem_append_left _ (List.mem_of_getElem? (i := 20) rfl))) (List.mem_cons_of_mem _ (List.mem_append_left _ (List.mem_of_getElem? (i := 21) rfl))) (List.mem_cons_of_mem _ (List.mem_append_left _ (List.mem_of_getElem? (i := 5) rfl))) (gi_sub (fun w h => (List.mem_cons_of_mem _ (List.mem_append_right _ (List.mem_append_right _ (List.mem_append_right _ (List.mem_append_right _ (List.mem_append_right _ (List.mem_append_right _ (List.mem_append_left _ h))))))))) zg_j136_X12_toldInt)) rfl rfl rfl (by decide +kernel) ⟨Nat.le_of_ble_eq_true rfl, Nat.le_of_ble_eq_true rfl⟩ 0 rfl rfl rfl rfl (Nat.le_of_ble_eq_true rfl) ⟨Nat.le_of_ble_eq_true rfl, Nat.le_of_ble_eq_true rfl⟩ dX12_tellOne_178 (fun v ty' w' hp hk' => ?_)
      obtain ⟨I26392, A26392, L26392, hI26392, hA26392, hV26392, y26391, r26393, r26394, r26395, r26396, r26397, hL26392, hC, rfl, rfl⟩ := hp
      replace hF := FE.bdM hF hC
      have f26398 := IvM_f4 hV26392
      have f26399 := IvM_f6 hIv
      have f26400 := IvM_f6 hV26392
      have f26401 := IvM_f8 hIv
      have f26402 := IvM_f8 hV26392
      have b26403l := Int32.le_toInt y26391
      have b26403h := Int32.toInt_lt y26391
      show GW κ 1 0 0 (wM r g I26392 A26392 L26392) 181 [(0, .ref (r 0))] [.int y26391, .int 0, .ref (r 17)]
      refine sM_16 (j := 0) hk (vp_in_iff.mpr ⟨by decide, by decide⟩) (by decide) dX12_tellOne_181 ?_
      refine g_goto (tgt := 190) hk dX12_tellOne_182 (by decide) ?_
      have g26404 : (I26392 15).toInt = (I 15).toInt := by rw [show (I26392 15) = (I 15) from (hI26392 15 rfl)]
      have g26405 : (I26392 16).toInt = (I 16).toInt := by rw [show (I26392 16) = (I 16) from (hI26392 16 rfl)]
      have g26406 := IvM_s10_0 (I := I26392) (A := A26392) hV26392
      have g26407 := IvM_s10_1 (I := I26392) (A := A26392) hV26392
      exact g_vret hk hR ⟨I26392, (up3 A26392 16 0 y26391), L26392, (show Md [4, 6, 7, 8, 9, 11, 12, 13, 17] I I26392 from (Md.tr Md.rf hI26392 rfl)), (show Md [8, 9, 10, 11, 12, 13, 14, 15, 16] A (up3 A26392 16 0 y26391) from (Md.up3 (Md.tr Md.rf hA26392 rfl) rfl)), ⟨(IvM_f1 (I := I26392) (A := A26392) hV26392), (IvM_f2 (I := I26392) (A := A26392) hV26392), (IvM_f3 (I := I26392) (A := A26392) hV26392), (IvM_f4 (I := I26392) (A := A26392) hV26392), (IvM_f6 (I := I26392) (A := A26392) hV26392), (IvM_f8 (I := I26392) (A := A26392) hV26392), (IvM_f15 (I := I26392) (A := A26392) hV26392), (IvM_f16 (I := I26392) (A := A26392) hV26392), (IvM_f17 (I := I26392) (A := A26392) hV26392), (IvM_f18 (I := I26392) (A := A26392) hV26392), (IvM_f22 (I := I26392) (A := A26392) hV26392), (IvM_f23 (I := I26392) (A := A26392) hV26392), (IvM_f24 (I := I26392) (A := A26392) hV26392), (IvM_a11 (I := I26392) (A := A26392) hV26392), (IvM_a26 (I := I26392) (A := A26392) hV26392), (IvM_s8_0 (I := I26392) (A := A26392) hV26392), (IvM_s8_1 (I := I26392) (A := A26392) hV26392), (IvM_s10_0 (I := I26392) (A := A26392) hV26392), (IvM_s10_1 (I := I26392) (A := A26392) hV26392), (IvM_s17_0 (I := I26392) (A := A26392) hV26392), (IvM_s17_164 (I := I26392) (A := A26392) hV26392), ⟨fun e => by have e : (I26392 15).toInt = 0 := e; first | exact (IvM_lv (I := I26392) (A := A26392) hV26392).1 e | (exfalso; omega), fun e => by have e : (I26392 15).toInt = 1 := e; first | exact (IvM_lv (I := I26392) (A := A26392) hV26392).2 e | (exfalso; omega)⟩, (by by_cases g6 : (I26392 6).toInt ≠ 0; exact Or.inl g6; by_cases g8 : (I26392 8).toInt ≠ 0; exact Or.inr (Or.inl g8); rcases (IvM_sd (I := I26392) (A := A26392) hV26392) with h9 | h9 | h9; exact absurd h9 g6; exact absurd h9 g8; exact Or.inr (Or.inr ⟨fun e => by have e : (I26392 16).toInt = 0 := e; first | exact ghf_a (a2 := y26391) (h9.1 e) (by omega) | (exfalso; omega), fun e => by have e : (I26392 16).toInt = 1 := e; first | exact ghf_a (a2 := (A26392 16 1)) (h9.2 e) (by omega) | (exfalso; omega)⟩)), (IvM_nq (I := I26392) (A := A26392) hV26392), (IvM_hr (I := I26392) (A := A26392) hV26392), (IvM_hh (I := I26392) (A := A26392) hV26392), trivial⟩, (by omega), (by omega), (by omega), (by omega), hF, rfl, rfl⟩ dX12_tellOne_190
    replace hF := FE.neg hF c26388
    by_cases c26408 : (I 16).toInt = 1
    · have ec26408 : (I 16) = 1 := Int32.toInt_inj.mp c26408
      replace hF := FE.pos hF c26408
      rw [ec26408]
      show GW κ 1 0 0 (wM r g I A L) 174 [(0, .ref (r 0))] [.int 1, .ref (r 17)]
      refine g_aload_n hk dX12_tellOne_174 rfl ?_
      refine g_iconst (v := 1) hk dX12_tellOne_175 (by decide) ?_
      refine g_bipush (v := 99) hk dX12_tellOne_176 (by decide) ?_
      have k26409 : (1 : Int32).toInt = 1 := rfl
      have k26410 : (99 : Int32).toInt = 99 := rfl
      refine g_callV (n := 2) hk (j136_X12_toldInt l D zt r g I A L 1 99 hIv) (SP.same _) (fun _ h => h) (gi_V (List.mem_cons_of_mem _ (List.mem_append_left _ (List.mem_of_getElem? (i := 19) rfl))) (List.mem_cons_of_mem _ (List.mem_append_left _ (List.mem_of_getElem? (i := 20) rfl))) (List.mem_cons_of_mem _ (List.mem_append_left _ (List.mem_of_getElem? (i := 21) rfl))) (List.mem_cons_of_mem _ (List.mem_append_left _ (List.mem_of_getElem? (i := 5) rfl))) (gi_sub (fun w h => (List.mem_cons_of_mem _ (List.mem_append_right _ (List.mem_append_right _ (List.mem_append_right _ (List.mem_append_right _ (List.mem_append_right _ (List.mem_append_right _ (List.mem_append_left _ h))))))))) zg_j136_X12_toldInt)) rfl rfl rfl (by decide +kernel) ⟨Nat.le_of_ble_eq_true rfl, Nat.le_of_ble_eq_true rfl⟩ 0 rfl rfl rfl rfl (Nat.le_of_ble_eq_true rfl) ⟨Nat.le_of_ble_eq_true rfl, Nat.le_of_ble_eq_true rfl⟩ dX12_tellOne_178 (fun v ty' w' hp hk' => ?_)
      obtain ⟨I26412, A26412, L26412, hI26412, hA26412, hV26412, y26411, r26413, r26414, r26415, r26416, r26417, hL26412, hC, rfl, rfl⟩ := hp
      replace hF := FE.bdM hF hC
      have f26418 := IvM_f4 hV26412
      have f26419 := IvM_f6 hIv
      have f26420 := IvM_f6 hV26412
      have f26421 := IvM_f8 hIv
      have f26422 := IvM_f8 hV26412
      have b26423l := Int32.le_toInt y26411
      have b26423h := Int32.toInt_lt y26411
      show GW κ 1 0 0 (wM r g I26412 A26412 L26412) 181 [(0, .ref (r 0))] [.int y26411, .int 1, .ref (r 17)]
      refine sM_16 (j := 1) hk (vp_in_iff.mpr ⟨by decide, by decide⟩) (by decide) dX12_tellOne_181 ?_
      refine g_goto (tgt := 190) hk dX12_tellOne_182 (by decide) ?_
      have g26424 : (I26412 15).toInt = (I 15).toInt := by rw [show (I26412 15) = (I 15) from (hI26412 15 rfl)]
      have g26425 : (I26412 16).toInt = (I 16).toInt := by rw [show (I26412 16) = (I 16) from (hI26412 16 rfl)]
      have g26426 := IvM_s10_0 (I := I26412) (A := A26412) hV26412
      have g26427 := IvM_s10_1 (I := I26412) (A := A26412) hV26412
      exact g_vret hk hR ⟨I26412, (up3 A26412 16 1 y26411), L26412, (show Md [4, 6, 7, 8, 9, 11, 12, 13, 17] I I26412 from (Md.tr Md.rf hI26412 rfl)), (show Md [8, 9, 10, 11, 12, 13, 14, 15, 16] A (up3 A26412 16 1 y26411) from (Md.up3 (Md.tr Md.rf hA26412 rfl) rfl)), ⟨(IvM_f1 (I := I26412) (A := A26412) hV26412), (IvM_f2 (I := I26412) (A := A26412) hV26412), (IvM_f3 (I := I26412) (A := A26412) hV26412), (IvM_f4 (I := I26412) (A := A26412) hV26412), (IvM_f6 (I := I26412) (A := A26412) hV26412), (IvM_f8 (I := I26412) (A := A26412) hV26412), (IvM_f15 (I := I26412) (A := A26412) hV26412), (IvM_f16 (I := I26412) (A := A26412) hV26412), (IvM_f17 (I := I26412) (A := A26412) hV26412), (IvM_f18 (I := I26412) (A := A26412) hV26412), (IvM_f22 (I := I26412) (A := A26412) hV26412), (IvM_f23 (I := I26412) (A := A26412) hV26412), (IvM_f24 (I := I26412) (A := A26412) hV26412), (IvM_a11 (I := I26412) (A := A26412) hV26412), (IvM_a26 (I := I26412) (A := A26412) hV26412), (IvM_s8_0 (I := I26412) (A := A26412) hV26412), (IvM_s8_1 (I := I26412) (A := A26412) hV26412), (IvM_s10_0 (I := I26412) (A := A26412) hV26412), (IvM_s10_1 (I := I26412) (A := A26412) hV26412), (IvM_s17_0 (I := I26412) (A := A26412) hV26412), (IvM_s17_164 (I := I26412) (A := A26412) hV26412), ⟨fun e => by have e : (I26412 15).toInt = 0 := e; first | exact (IvM_lv (I := I26412) (A := A26412) hV26412).1 e | (exfalso; omega), fun e => by have e : (I26412 15).toInt = 1 := e; first | exact (IvM_lv (I := I26412) (A := A26412) hV26412).2 e | (exfalso; omega)⟩, (by by_cases g6 : (I26412 6).toInt ≠ 0; exact Or.inl g6; by_cases g8 : (I26412 8).toInt ≠ 0; exact Or.inr (Or.inl g8); rcases (IvM_sd (I := I26412) (A := A26412) hV26412) with h9 | h9 | h9; exact absurd h9 g6; exact absurd h9 g8; exact Or.inr (Or.inr ⟨fun e => by have e : (I26412 16).toInt = 0 := e; first | exact ghf_a (a2 := (A26412 16 0)) (h9.1 e) (by omega) | (exfalso; omega), fun e => by have e : (I26412 16).toInt = 1 := e; first | exact ghf_a (a2 := y26411) (h9.2 e) (by omega) | (exfalso; omega)⟩)), (IvM_nq (I := I26412) (A := A26412) hV26412), (IvM_hr (I := I26412) (A := A26412) hV26412), (IvM_hh (I := I26412) (A := A26412) hV26412), trivial⟩, (by omega), (by omega), (by omega), (by omega), hF, rfl, rfl⟩ dX12_tellOne_190
    replace hF := FE.neg hF c26408
    exfalso; omega
  replace hF := FE.neg hF c26386
  refine g_tabOut (tgt := 185) (a := (A 2 (I 4).toNatClampNeg).toInt) hk dX12_tellOne_9 rfl (by omega) (by decide) ?_
  refine g_aload_n hk dX12_tellOne_185 rfl ?_
  refine g_iconst (v := 1) hk dX12_tellOne_186 (by decide) ?_
  have k26428 : (1 : Int32).toInt = 1 := rfl
  refine g_callV (n := 1) hk (j128_X12_fail l D zt r g I A L 1 hIv (by decide) (by decide)) (SP.same _) (fun _ h => h) (gi_V (List.mem_cons_of_mem _ (List.mem_append_left _ (List.mem_of_getElem? (i := 15) rfl))) (List.mem_cons_of_mem _ (List.mem_append_left _ (List.mem_of_getElem? (i := 16) rfl))) (List.mem_cons_of_mem _ (List.mem_append_left _ (List.mem_of_getElem? (i := 17) rfl))) (List.mem_cons_of_mem _ (List.mem_append_left _ (List.mem_of_getElem? (i := 5) rfl))) (gi_sub (fun w h => (List.mem_cons_of_mem _ (List.mem_append_right _ (List.mem_append_right _ (List.mem_append_right _ (List.mem_append_right _ (List.mem_append_right _ (List.mem_append_left _ h)))))))) zg_j128_X12_fail)) rfl rfl rfl (by decide +kernel) ⟨Nat.le_of_ble_eq_true rfl, Nat.le_of_ble_eq_true rfl⟩ 0 rfl rfl rfl rfl (Nat.le_of_ble_eq_true rfl) ⟨Nat.le_of_ble_eq_true rfl, Nat.le_of_ble_eq_true rfl⟩ dX12_tellOne_187 (fun v ty' w' hp hk' => ?_)
  obtain ⟨I26430, A26430, L26430, hI26430, hA26430, hV26430, r26431, r26432, r26433, hL26430, hC, rfl, rfl⟩ := hp
  replace hF := FE.bdM hF hC
  have f26434 := IvM_f6 hIv
  have f26435 := IvM_f6 hV26430
  have f26436 := IvM_f8 hIv
  rw [show (I26430 8) = (I 8) from (hI26430 8 rfl)] at r26432
  show GW κ 1 0 0 (wM r g I26430 A26430 L26430) 190 [(0, .ref (r 0))] []
  exact g_vret hk hR ⟨I26430, A26430, L26430, (show Md [4, 6, 7, 8, 9, 11, 12, 13, 17] I I26430 from (Md.tr Md.rf hI26430 rfl)), (show Md [8, 9, 10, 11, 12, 13, 14, 15, 16] A A26430 from (Md.tr Md.rf hA26430 rfl)), hV26430, (by rw [show (I26430 4) = (I 4) from (hI26430 4 rfl)] <;> omega), (by omega), (by rw [show (I26430 8) = (I 8) from (hI26430 8 rfl)] <;> omega), (by rw [show (I26430 4) = (I 4) from (hI26430 4 rfl)] <;> omega), hF, rfl, rfl⟩ dX12_tellOne_190
noncomputable def bM12_begins_39 (I : Nat → Int32) (A : Nat → Nat → Int32) : (Int32 → (Nat → Int32) → (Nat → Nat → Int32) → (Nat → Nat → Int64) → (Int32 × (Nat → Int32) × (Nat → Nat → Int32) × (Nat → Nat → Int64))) → Int32 → (Nat → Int32) → (Nat → Nat → Int32) → (Nat → Nat → Int64) → (Int32 × (Nat → Int32) × (Nat → Nat → Int32) × (Nat → Nat → Int64)) := fun kk26486 x26454 I26456 A26456 L26456 => if (A26456 18 0).toInt ≤ x26454.toInt then if (I 15).toInt = 0 then if (I 15).toInt = 0 then if (I 15).toInt = 0 then if (I 15).toInt = 0 then (0, I26456, (up3 (up3 (up3 (up3 A26456 18 161 (A 13 0)) 18 162 (A 14 0)) 18 163 (A 15 0)) 18 164 (A 16 0)), L26456) else dfM else dfM else dfM else dfM else f_lt ((1 : Int32) + x26454) fun y26494 => if (I 15).toInt = 0 then f_lt ((0 : Int32) + x26454) fun y26496 => f_lt (x26454 + Int32.ofInt 1) fun y26499 => kk26486 y26499 I26456 (up3 A26456 18 (y26494.toNatClampNeg) (A 9 y26496.toNatClampNeg)) L26456 else dfM
noncomputable def bM12_begins_39x (I : Nat → Int32) (A : Nat → Nat → Int32) : (Int32 → (Nat → Int32) → (Nat → Nat → Int32) → (Nat → Nat → Int64) → (Int32 × (Nat → Int32) × (Nat → Nat → Int32) × (Nat → Nat → Int64))) → Int32 → (Nat → Int32) → (Nat → Nat → Int32) → (Nat → Nat → Int64) → (Int32 × (Nat → Int32) × (Nat → Nat → Int32) × (Nat → Nat → Int64)) := fun kk26538 x26506 I26508 A26508 L26508 => if (A26508 18 0).toInt ≤ x26506.toInt then if (I 15).toInt = 1 then if (I 15).toInt = 1 then if (I 15).toInt = 1 then if (I 15).toInt = 1 then (0, I26508, (up3 (up3 (up3 (up3 A26508 18 161 (A 13 1)) 18 162 (A 14 1)) 18 163 (A 15 1)) 18 164 (A 16 1)), L26508) else dfM else dfM else dfM else dfM else f_lt ((1 : Int32) + x26506) fun y26546 => if (I 15).toInt = 1 then f_lt ((160 : Int32) + x26506) fun y26548 => f_lt (x26506 + Int32.ofInt 1) fun y26551 => kk26538 y26551 I26508 (up3 A26508 18 (y26546.toNatClampNeg) (A 9 y26548.toNatClampNeg)) L26508 else dfM
noncomputable def fM12_begins (I : Nat → Int32) (A : Nat → Nat → Int32) (L : Nat → Nat → Int64) : Int32 × (Nat → Int32) × (Nat → Nat → Int32) × (Nat → Nat → Int64) := if (I 15).toInt = 0 then itr_iIAL dfM (bM12_begins_39 I A) FU 0 I (up3 (up2 A 18 (cpo (fun _ => 0) (A 18) 0 165)) 18 0 (A 8 0)) L else if (I 15).toInt = 1 then itr_iIAL dfM (bM12_begins_39x I A) FU 0 I (up3 (up2 A 18 (cpo (fun _ => 0) (A 18) 0 165)) 18 0 (A 8 1)) L else dfM
def wo_j138_X12_begins : List Cond := [Cond.fieldLink RX12 73 "WarpDeskModel" "row" "[I", Cond.fieldLink RX12 43 "WarpDeskModel" "placesTold" "[I", Cond.fieldLink RX12 197 "WarpDeskModel" "live" "I", Cond.fieldLink RX12 58 "WarpDeskModel" "bandTold" "[I", Cond.fieldLink RX12 61 "WarpDeskModel" "levelTold" "[I", Cond.fieldLink RX12 64 "WarpDeskModel" "costTold" "[I", Cond.fieldLink RX12 67 "WarpDeskModel" "apartTold" "[I", Cond.fieldLink RX12 46 "WarpDeskModel" "seriesTold" "[I"]
def wz_j138_X12_begins : List Cond := .code yX12_begins cX12_begins 2 none :: (wo_j138_X12_begins ++ (wsX120 ++ ([] : List Cond)))
theorem zg_j138_X12_begins : ∀ w ∈ wz_j138_X12_begins, goodWord w = true := zg_cons rfl (zg_app (by decide +kernel) (zg_app zgU_wsX120 zg_nil))
theorem zi_j138_X12_begins : ∀ w ∈ wz_j138_X12_begins, w ∈ lw_tbl := zi_cons zw_1375 (zi_app (zi_cons zw_1414 (zi_cons zw_1404 (zi_cons zw_1400 (zi_cons zw_1409 (zi_cons zw_1410 (zi_cons zw_1411 (zi_cons zw_1412 (zi_cons zw_1405 zi_nil)))))))) (zi_app inX12 zi_nil))
set_option maxHeartbeats 4000000 in
set_option maxRecDepth 100000 in
theorem j138_X12_begins (l : Launch) (D : va_G) (zt : Nat × Nat × Nat × (Nat → Nat) × (Nat → Nat)) (r : Nat → Nat) (g : Nat → ClassId) (I : Nat → Int32) (A : Nat → Nat → Int32) (L : Nat → Nat → Int64) (hIv : IvM I A) : GM l D zt (tyM g) yX12_begins wz_j138_X12_begins ({ frames := 0, cells := 0, slots := 0, locals := 0 } : Room) [.ref (r 0)] (wM r g I A L) (fun v _ w' => ∃ (I' : Nat → Int32) (A' : Nat → Nat → Int32) (L' : Nat → Nat → Int64), Md [] I I' ∧ Md [18] A A' ∧ IvM I' A' ∧ (0 ≤ (A' 18 0).toInt) ∧ ((A' 18 0).toInt ≤ 160) ∧ (1 ≤ (A' 18 164).toInt) ∧ (L' = L) ∧ FE (fM12_begins I A L) (0, I', A', L') ∧ v = none ∧ w' = wM r g I' A' L') 0 0 := by
  refine GM.of (cc := cX12_begins) (maxL := 2) (ret := none) (own := RX12) (lv := [(0, .ref (r 0))]) (by decide) rfl rfl (Nat.le_of_ble_eq_true rfl) rfl (fun κ sz hk hR hN => ?_)
  have hin12 : ∀ w ∈ u_ws RX12 TX12 55, w ∈ wz_j138_X12_begins := fun w h => (List.mem_cons_of_mem _ (List.mem_append_right _ (List.mem_append_left _ h)))
  have hF : FE (fM12_begins I A L) (fM12_begins I A L) := FE.rf
  refine g_iconst (v := 0) hk dX12_begins_0 (by decide) ?_
  refine g_istore_n (lv' := [(1, .int 0), (0, .ref (r 0))]) hk dX12_begins_1 (by decide) rfl ?_
  have lp26446 : ∀ (n26448 k26447 : Nat), k26447 + n26448 = 165 → GW κ 2 0 0 (wM r g I (up2 A 18 (cpo (fun _ => 0) (A 18) 0 k26447)) L) 2 [(1, .int (nI k26447)), (0, .ref (r 0))] [] := by
    intro n26448
    induction n26448 with
    | zero =>
      intro k26447 hk26447
      obtain rfl : k26447 = 165 := by omega
      show GW κ 2 0 0 (wM r g I (up2 A 18 (cpo (fun _ => 0) (A 18) 0 165)) L) 2 [(1, .int 165), (0, .ref (r 0))] []
      refine g_iload_n hk dX12_begins_2 rfl ?_
      refine g_sipush (v := 165) hk dX12_begins_3 (by decide) ?_
      refine g_icmp_ge (tgt := 22) (a := 165) (b := 165) hk dX12_begins_6 (by decide) rfl rfl (fun _ => ?_) (fun z9 => absurd (show (165 : Int) ≤ (165 : Int) from by decide) z9)
      refine g_aload_n hk dX12_begins_22 rfl ?_
      refine gM_r0_36 hk hin12 (List.mem_cons_of_mem _ (List.mem_append_left _ (List.mem_of_getElem? (i := 0) rfl))) dX12_begins_23 ?_
      refine g_iconst (v := 0) hk dX12_begins_26 (by decide) ?_
      refine g_aload_n hk dX12_begins_27 rfl ?_
      refine gM_r0_26 hk hin12 (List.mem_cons_of_mem _ (List.mem_append_left _ (List.mem_of_getElem? (i := 1) rfl))) dX12_begins_28 ?_
      refine g_aload_n hk dX12_begins_31 rfl ?_
      refine gM_i15 (v := (I 15)) hk hin12 (List.mem_cons_of_mem _ (List.mem_append_left _ (List.mem_of_getElem? (i := 2) rfl))) dX12_begins_32 rfl ?_
      have f26451 := IvM_f15 hIv
      by_cases c26452 : (I 15).toInt = 0
      · have ec26452 : (I 15) = 0 := Int32.toInt_inj.mp c26452
        replace hF := FE.pos hF c26452
        rw [ec26452]
        show GW κ 2 0 0 (wM r g I (up2 A 18 (cpo (fun _ => 0) (A 18) 0 165)) L) 35 [(1, .int 165), (0, .ref (r 0))] [.int 0, .ref (r 9), .int 0, .ref (r 19)]
        refine lM_8 (v := (A 8 0)) hk (vp_in_iff.mpr ⟨by decide, by decide⟩) rfl dX12_begins_35 ?_
        have f26453 := IvM_s8_0 hIv
        refine sM_18 (j := 0) hk (vp_in_iff.mpr ⟨by decide, by decide⟩) (by decide) dX12_begins_36 ?_
        refine g_iconst (v := 0) hk dX12_begins_37 (by decide) ?_
        refine g_istore_n (lv' := [(1, .int 0), (0, .ref (r 0))]) hk dX12_begins_38 (by decide) rfl ?_
        have lp26483 : ∀ (n26484 : Nat) (x26454 : Int32) (I26456 : Nat → Int32) (A26456 : Nat → Nat → Int32) (L26456 : Nat → Nat → Int64), (Md [] I I26456) → (Md [18] (up3 (up2 A 18 (cpo (fun _ => 0) (A 18) 0 165)) 18 0 (A 8 0)) A26456) → (IvM I26456 A26456) → (L26456 = L) → (0 ≤ x26454.toInt) → (x26454.toInt ≤ 160) → (0 ≤ (A26456 18 0).toInt) → ((A26456 18 0).toInt ≤ 160) → (161 - x26454.toInt < (n26484 : Int)) → (0 < n26484) → (FE (fM12_begins I A L) (itr_iIAL dfM (bM12_begins_39 I A) n26484 x26454 I26456 A26456 L26456)) → GW κ 2 0 0 (wM r g I26456 A26456 L26456) 39 [(1, .int x26454), (0, .ref (r 0))] [] := by
          intro n26484
          induction n26484 with
          | zero =>
            intro x26454 I26456 A26456 L26456 hI26456 hA26456 hV26456 hL26456 h26479 h26480 h26481 h26482 m26485 m26485z hF
            exact absurd m26485z (Nat.lt_irrefl 0)
          | succ n26484 ih26487 =>
            intro x26454 I26456 A26456 L26456 hI26456 hA26456 hV26456 hL26456 h26479 h26480 h26481 h26482 m26485 m26485z hF
            replace hF := FE.itr_iIAL hF
            refine g_iload_n hk dX12_begins_39 rfl ?_
            refine g_aload_n hk dX12_begins_40 rfl ?_
            refine gM_r0_36 hk hin12 (List.mem_cons_of_mem _ (List.mem_append_left _ (List.mem_of_getElem? (i := 0) rfl))) dX12_begins_41 ?_
            refine g_iconst (v := 0) hk dX12_begins_44 (by decide) ?_
            refine lM_18 (v := (A26456 18 0)) hk (vp_in_iff.mpr ⟨by decide, by decide⟩) rfl dX12_begins_45 ?_
            refine g_icmp_ge (tgt := 78) (a := x26454.toInt) (b := (A26456 18 0).toInt) hk dX12_begins_46 (by decide) rfl rfl (fun c26488 => ?_) (fun c26488 => ?_)
            · skip
              replace hF := FE.pos hF c26488
              refine g_aload_n hk dX12_begins_78 rfl ?_
              refine gM_r0_36 hk hin12 (List.mem_cons_of_mem _ (List.mem_append_left _ (List.mem_of_getElem? (i := 0) rfl))) dX12_begins_79 ?_
              refine g_sipush (v := 161) hk dX12_begins_82 (by decide) ?_
              refine g_aload_n hk dX12_begins_85 rfl ?_
              refine gM_r0_31 hk hin12 (List.mem_cons_of_mem _ (List.mem_append_left _ (List.mem_of_getElem? (i := 3) rfl))) dX12_begins_86 ?_
              refine g_aload_n hk dX12_begins_89 rfl ?_
              refine gM_i15 (v := (I 15)) hk hin12 (List.mem_cons_of_mem _ (List.mem_append_left _ (List.mem_of_getElem? (i := 2) rfl))) dX12_begins_90 (hI26456 15 rfl) ?_
              by_cases c26489 : (I 15).toInt = 0
              · have ec26489 : (I 15) = 0 := Int32.toInt_inj.mp c26489
                replace hF := FE.pos hF c26489
                rw [ec26489]
                show GW κ 2 0 0 (wM r g I26456 A26456 L26456) 93 [(1, .int x26454), (0, .ref (r 0))] [.int 0, .ref (r 14), .int 161, .ref (r 19)]
                refine lM_13 (v := (A 13 0)) hk (vp_in_iff.mpr ⟨by decide, by decide⟩) (congrFun (hA26456 13 rfl) _) dX12_begins_93 ?_
                refine sM_18 (j := 161) hk (vp_in_iff.mpr ⟨by decide, by decide⟩) (by decide) dX12_begins_94 ?_
                refine g_aload_n hk dX12_begins_95 rfl ?_
                refine gM_r0_36 hk hin12 (List.mem_cons_of_mem _ (List.mem_append_left _ (List.mem_of_getElem? (i := 0) rfl))) dX12_begins_96 ?_
                refine g_sipush (v := 162) hk dX12_begins_99 (by decide) ?_
                refine g_aload_n hk dX12_begins_102 rfl ?_
                refine gM_r0_32 hk hin12 (List.mem_cons_of_mem _ (List.mem_append_left _ (List.mem_of_getElem? (i := 4) rfl))) dX12_begins_103 ?_
                refine g_aload_n hk dX12_begins_106 rfl ?_
                refine gM_i15 (v := (I 15)) hk hin12 (List.mem_cons_of_mem _ (List.mem_append_left _ (List.mem_of_getElem? (i := 2) rfl))) dX12_begins_107 (hI26456 15 rfl) ?_
                by_cases c26490 : (I 15).toInt = 0
                · have ec26490 : (I 15) = 0 := Int32.toInt_inj.mp c26490
                  replace hF := FE.pos hF c26490
                  rw [ec26490]
                  show GW κ 2 0 0 (wM r g I26456 (up3 A26456 18 161 (A 13 0)) L26456) 110 [(1, .int x26454), (0, .ref (r 0))] [.int 0, .ref (r 15), .int 162, .ref (r 19)]
                  refine lM_14 (v := (A 14 0)) hk (vp_in_iff.mpr ⟨by decide, by decide⟩) (congrFun (hA26456 14 rfl) _) dX12_begins_110 ?_
                  refine sM_18 (j := 162) hk (vp_in_iff.mpr ⟨by decide, by decide⟩) (by decide) dX12_begins_111 ?_
                  refine g_aload_n hk dX12_begins_112 rfl ?_
                  refine gM_r0_36 hk hin12 (List.mem_cons_of_mem _ (List.mem_append_left _ (List.mem_of_getElem? (i := 0) rfl))) dX12_begins_113 ?_
                  refine g_sipush (v := 163) hk dX12_begins_116 (by decide) ?_
                  refine g_aload_n hk dX12_begins_119 rfl ?_
                  refine gM_r0_33 hk hin12 (List.mem_cons_of_mem _ (List.mem_append_left _ (List.mem_of_getElem? (i := 5) rfl))) dX12_begins_120 ?_
                  refine g_aload_n hk dX12_begins_123 rfl ?_
                  refine gM_i15 (v := (I 15)) hk hin12 (List.mem_cons_of_mem _ (List.mem_append_left _ (List.mem_of_getElem? (i := 2) rfl))) dX12_begins_124 (hI26456 15 rfl) ?_
                  by_cases c26491 : (I 15).toInt = 0
                  · have ec26491 : (I 15) = 0 := Int32.toInt_inj.mp c26491
                    replace hF := FE.pos hF c26491
                    rw [ec26491]
                    show GW κ 2 0 0 (wM r g I26456 (up3 (up3 A26456 18 161 (A 13 0)) 18 162 (A 14 0)) L26456) 127 [(1, .int x26454), (0, .ref (r 0))] [.int 0, .ref (r 16), .int 163, .ref (r 19)]
                    refine lM_15 (v := (A 15 0)) hk (vp_in_iff.mpr ⟨by decide, by decide⟩) (congrFun (hA26456 15 rfl) _) dX12_begins_127 ?_
                    refine sM_18 (j := 163) hk (vp_in_iff.mpr ⟨by decide, by decide⟩) (by decide) dX12_begins_128 ?_
                    refine g_aload_n hk dX12_begins_129 rfl ?_
                    refine gM_r0_36 hk hin12 (List.mem_cons_of_mem _ (List.mem_append_left _ (List.mem_of_getElem? (i := 0) rfl))) dX12_begins_130 ?_
                    refine g_sipush (v := 164) hk dX12_begins_133 (by decide) ?_
                    refine g_aload_n hk dX12_begins_136 rfl ?_
                    refine gM_r0_34 hk hin12 (List.mem_cons_of_mem _ (List.mem_append_left _ (List.mem_of_getElem? (i := 6) rfl))) dX12_begins_137 ?_
                    refine g_aload_n hk dX12_begins_140 rfl ?_
                    refine gM_i15 (v := (I 15)) hk hin12 (List.mem_cons_of_mem _ (List.mem_append_left _ (List.mem_of_getElem? (i := 2) rfl))) dX12_begins_141 (hI26456 15 rfl) ?_
                    by_cases c26492 : (I 15).toInt = 0
                    · have ec26492 : (I 15) = 0 := Int32.toInt_inj.mp c26492
                      replace hF := FE.pos hF c26492
                      rw [ec26492]
                      show GW κ 2 0 0 (wM r g I26456 (up3 (up3 (up3 A26456 18 161 (A 13 0)) 18 162 (A 14 0)) 18 163 (A 15 0)) L26456) 144 [(1, .int x26454), (0, .ref (r 0))] [.int 0, .ref (r 17), .int 164, .ref (r 19)]
                      refine lM_16 (v := (A 16 0)) hk (vp_in_iff.mpr ⟨by decide, by decide⟩) (congrFun (hA26456 16 rfl) _) dX12_begins_144 ?_
                      refine sM_18 (j := 164) hk (vp_in_iff.mpr ⟨by decide, by decide⟩) (by decide) dX12_begins_145 ?_
                      have g26493 : 1 ≤ (A 16 0).toInt := ((IvM_lv (I := I) (A := A) hIv).1 (by omega)).1
                      exact g_vret hk hR ⟨I26456, (up3 (up3 (up3 (up3 A26456 18 161 (A 13 0)) 18 162 (A 14 0)) 18 163 (A 15 0)) 18 164 (A 16 0)), L26456, (show Md [] I I26456 from (Md.tr Md.rf hI26456 rfl)), (show Md [18] A (up3 (up3 (up3 (up3 A26456 18 161 (A 13 0)) 18 162 (A 14 0)) 18 163 (A 15 0)) 18 164 (A 16 0)) from (Md.up3 (Md.up3 (Md.up3 (Md.up3 (Md.tr (Md.up3 (Md.up2 Md.rf rfl) rfl) hA26456 rfl) rfl) rfl) rfl) rfl)), ⟨(IvM_f1 (I := I26456) (A := A26456) hV26456), (IvM_f2 (I := I26456) (A := A26456) hV26456), (IvM_f3 (I := I26456) (A := A26456) hV26456), (IvM_f4 (I := I26456) (A := A26456) hV26456), (IvM_f6 (I := I26456) (A := A26456) hV26456), (IvM_f8 (I := I26456) (A := A26456) hV26456), (IvM_f15 (I := I26456) (A := A26456) hV26456), (IvM_f16 (I := I26456) (A := A26456) hV26456), (IvM_f17 (I := I26456) (A := A26456) hV26456), (IvM_f18 (I := I26456) (A := A26456) hV26456), (IvM_f22 (I := I26456) (A := A26456) hV26456), (IvM_f23 (I := I26456) (A := A26456) hV26456), (IvM_f24 (I := I26456) (A := A26456) hV26456), (IvM_a11 (I := I26456) (A := A26456) hV26456), (IvM_a26 (I := I26456) (A := A26456) hV26456), (IvM_s8_0 (I := I26456) (A := A26456) hV26456), (IvM_s8_1 (I := I26456) (A := A26456) hV26456), (IvM_s10_0 (I := I26456) (A := A26456) hV26456), (IvM_s10_1 (I := I26456) (A := A26456) hV26456), (IvM_s17_0 (I := I26456) (A := A26456) hV26456), (IvM_s17_164 (I := I26456) (A := A26456) hV26456), (IvM_lv (I := I26456) (A := A26456) hV26456), (IvM_sd (I := I26456) (A := A26456) hV26456), (IvM_nq (I := I26456) (A := A26456) hV26456), (IvM_hr (I := I26456) (A := A26456) hV26456), (IvM_hh (I := I26456) (A := A26456) hV26456), trivial⟩, (by rw [show ((up3 (up3 (up3 (up3 A26456 18 161 (A 13 0)) 18 162 (A 14 0)) 18 163 (A 15 0)) 18 164 (A 16 0)) 18 0) = (A26456 18 0) from rfl] <;> omega), (by rw [show ((up3 (up3 (up3 (up3 A26456 18 161 (A 13 0)) 18 162 (A 14 0)) 18 163 (A 15 0)) 18 164 (A 16 0)) 18 0) = (A26456 18 0) from rfl] <;> omega), (by rw [show ((up3 (up3 (up3 (up3 A26456 18 161 (A 13 0)) 18 162 (A 14 0)) 18 163 (A 15 0)) 18 164 (A 16 0)) 18 164) = (A 16 0) from rfl] <;> omega), (show L26456 = L from hL26456), hF, rfl, rfl⟩ dX12_begins_146
                    replace hF := FE.neg hF c26492
                    exfalso; omega
                  replace hF := FE.neg hF c26491
                  exfalso; omega
                replace hF := FE.neg hF c26490
                exfalso; omega
              replace hF := FE.neg hF c26489
              exfalso; omega
            · skip
              replace hF := FE.neg hF c26488
              refine g_aload_n hk dX12_begins_49 rfl ?_
              refine gM_r0_36 hk hin12 (List.mem_cons_of_mem _ (List.mem_append_left _ (List.mem_of_getElem? (i := 0) rfl))) dX12_begins_50 ?_
              refine g_iconst (v := 1) hk dX12_begins_53 (by decide) ?_
              refine g_iload_n hk dX12_begins_54 rfl ?_
              refine g_iadd hk dX12_begins_55 ?_
              refine g_topi (fun y26494 ey26494 => ?_)
              replace hF := FE.lt hF ey26494
              have hy26494 : y26494.toInt = 1 + x26454.toInt := i32_add ey26494 rfl rfl (by omega) (by omega)
              refine g_aload_n hk dX12_begins_56 rfl ?_
              refine gM_r0_27 hk hin12 (List.mem_cons_of_mem _ (List.mem_append_left _ (List.mem_of_getElem? (i := 7) rfl))) dX12_begins_57 ?_
              refine g_sipush (v := 160) hk dX12_begins_60 (by decide) ?_
              refine g_aload_n hk dX12_begins_63 rfl ?_
              refine gM_i15 (v := (I 15)) hk hin12 (List.mem_cons_of_mem _ (List.mem_append_left _ (List.mem_of_getElem? (i := 2) rfl))) dX12_begins_64 (hI26456 15 rfl) ?_
              by_cases c26495 : (I 15).toInt = 0
              · have ec26495 : (I 15) = 0 := Int32.toInt_inj.mp c26495
                replace hF := FE.pos hF c26495
                rw [ec26495]
                show GW κ 2 0 0 (wM r g I26456 A26456 L26456) 67 [(1, .int x26454), (0, .ref (r 0))] [.int 0, .int 160, .ref (r 10), .int y26494, .ref (r 19)]
                refine g_imul hk dX12_begins_67 ?_
                refine g_norm (v := 0) (by decide) ?_
                refine g_iload_n hk dX12_begins_68 rfl ?_
                refine g_iadd hk dX12_begins_69 ?_
                refine g_topi (fun y26496 ey26496 => ?_)
                replace hF := FE.lt hF ey26496
                have hy26496 : y26496.toInt = 0 + x26454.toInt := i32_add ey26496 rfl rfl (by omega) (by omega)
                refine lM_9 (v := (A 9 y26496.toNatClampNeg)) hk (vp_in_iff.mpr ⟨by omega, by omega⟩) (congrFun (hA26456 9 rfl) _) dX12_begins_70 ?_
                refine sM_18 (j := y26494.toNatClampNeg) hk (vp_in_iff.mpr ⟨by omega, by omega⟩) rfl dX12_begins_71 ?_
                have hS26497 : (up3 A26456 18 (y26494.toNatClampNeg) (A 9 y26496.toNatClampNeg)) 18 0 = (A26456 18 0) := (up3_ne (by have := cl_int (y := y26494) (by omega); omega)).trans (show A26456 18 0 = (A26456 18 0) from rfl)
                have hS26498 : (up3 A26456 18 (y26494.toNatClampNeg) (A 9 y26496.toNatClampNeg)) 18 164 = (A26456 18 164) := (up3_ne (by have := cl_int (y := y26494) (by omega); omega)).trans (show A26456 18 164 = (A26456 18 164) from rfl)
                obtain ⟨y26499, ey26499⟩ : ∃ y : Int32, y = x26454 + Int32.ofInt 1 := ⟨_, rfl⟩
                replace hF := FE.lt hF ey26499
                have hy26499 : y26499.toInt = x26454.toInt + 1 := i32_add ey26499 rfl (by decide) (by omega) (by omega)
                refine g_iinc (v := y26499) (lv' := [(1, .int y26499), (0, .ref (r 0))]) hk 0 dX12_begins_72 rfl ey26499.symm (by decide) rfl ?_
                refine g_goto (tgt := 39) hk dX12_begins_75 (by decide) ?_
                exact g_lv (List.forall_mem_cons.mpr ⟨List.mem_of_getElem? (i := 0) rfl, (List.forall_mem_cons.mpr ⟨List.mem_of_getElem? (i := 1) rfl, (fun _ h => absurd h List.not_mem_nil)⟩)⟩) (ih26487 y26499 I26456 (up3 A26456 18 (y26494.toNatClampNeg) (A 9 y26496.toNatClampNeg)) L26456 (show Md [] I I26456 from Md.tr hI26456 (show Md [] I26456 I26456 from Md.rf) rfl) (show Md [18] (up3 (up2 A 18 (cpo (fun _ => 0) (A 18) 0 165)) 18 0 (A 8 0)) (up3 A26456 18 (y26494.toNatClampNeg) (A 9 y26496.toNatClampNeg)) from Md.tr hA26456 (show Md [18] A26456 (up3 A26456 18 (y26494.toNatClampNeg) (A 9 y26496.toNatClampNeg)) from (Md.up3 Md.rf rfl)) rfl) ⟨(IvM_f1 (I := I26456) (A := A26456) hV26456), (IvM_f2 (I := I26456) (A := A26456) hV26456), (IvM_f3 (I := I26456) (A := A26456) hV26456), (IvM_f4 (I := I26456) (A := A26456) hV26456), (IvM_f6 (I := I26456) (A := A26456) hV26456), (IvM_f8 (I := I26456) (A := A26456) hV26456), (IvM_f15 (I := I26456) (A := A26456) hV26456), (IvM_f16 (I := I26456) (A := A26456) hV26456), (IvM_f17 (I := I26456) (A := A26456) hV26456), (IvM_f18 (I := I26456) (A := A26456) hV26456), (IvM_f22 (I := I26456) (A := A26456) hV26456), (IvM_f23 (I := I26456) (A := A26456) hV26456), (IvM_f24 (I := I26456) (A := A26456) hV26456), (IvM_a11 (I := I26456) (A := A26456) hV26456), (IvM_a26 (I := I26456) (A := A26456) hV26456), (IvM_s8_0 (I := I26456) (A := A26456) hV26456), (IvM_s8_1 (I := I26456) (A := A26456) hV26456), (IvM_s10_0 (I := I26456) (A := A26456) hV26456), (IvM_s10_1 (I := I26456) (A := A26456) hV26456), (IvM_s17_0 (I := I26456) (A := A26456) hV26456), (IvM_s17_164 (I := I26456) (A := A26456) hV26456), (IvM_lv (I := I26456) (A := A26456) hV26456), (IvM_sd (I := I26456) (A := A26456) hV26456), (IvM_nq (I := I26456) (A := A26456) hV26456), (IvM_hr (I := I26456) (A := A26456) hV26456), (IvM_hh (I := I26456) (A := A26456) hV26456), trivial⟩ (show L26456 = L from hL26456) (by omega) (by omega) (by first | (rw [show ((up3 A26456 18 (y26494.toNatClampNeg) (A 9 y26496.toNatClampNeg)) 18 0) = (A26456 18 0) from hS26497] <;> omega) | omega) (by first | (rw [show ((up3 A26456 18 (y26494.toNatClampNeg) (A 9 y26496.toNatClampNeg)) 18 0) = (A26456 18 0) from hS26497] <;> omega) | omega) (by omega) (by omega) hF)
              replace hF := FE.neg hF c26495
              exfalso; omega
        have k26500 : (0 : Int32).toInt = 0 := rfl
        have b26502 := Int32.le_toInt (0 : Int32)
        have b26503 := Int32.toInt_lt (0 : Int32)
        have n26501a : 161 - (0 : Int32).toInt < (FU : Int) := by have := FU_eq; omega
        have n26501b : 0 < FU := by have := FU_eq; omega
        exact lp26483 FU 0 I (up3 (up2 A 18 (cpo (fun _ => 0) (A 18) 0 165)) 18 0 (A 8 0)) L Md.rf Md.rf ⟨(IvM_f1 (I := I) (A := A) hIv), (IvM_f2 (I := I) (A := A) hIv), (IvM_f3 (I := I) (A := A) hIv), (IvM_f4 (I := I) (A := A) hIv), (IvM_f6 (I := I) (A := A) hIv), (IvM_f8 (I := I) (A := A) hIv), (IvM_f15 (I := I) (A := A) hIv), (IvM_f16 (I := I) (A := A) hIv), (IvM_f17 (I := I) (A := A) hIv), (IvM_f18 (I := I) (A := A) hIv), (IvM_f22 (I := I) (A := A) hIv), (IvM_f23 (I := I) (A := A) hIv), (IvM_f24 (I := I) (A := A) hIv), (IvM_a11 (I := I) (A := A) hIv), (IvM_a26 (I := I) (A := A) hIv), (IvM_s8_0 (I := I) (A := A) hIv), (IvM_s8_1 (I := I) (A := A) hIv), (IvM_s10_0 (I := I) (A := A) hIv), (IvM_s10_1 (I := I) (A := A) hIv), (IvM_s17_0 (I := I) (A := A) hIv), (IvM_s17_164 (I := I) (A := A) hIv), (IvM_lv (I := I) (A := A) hIv), (IvM_sd (I := I) (A := A) hIv), (IvM_nq (I := I) (A := A) hIv), (IvM_hr (I := I) (A := A) hIv), (IvM_hh (I := I) (A := A) hIv), trivial⟩ rfl (by omega) (by omega) (by first | (rw [show ((up3 (up2 A 18 (cpo (fun _ => 0) (A 18) 0 165)) 18 0 (A 8 0)) 18 0) = (A 8 0) from rfl] <;> omega) | omega) (by first | (rw [show ((up3 (up2 A 18 (cpo (fun _ => 0) (A 18) 0 165)) 18 0 (A 8 0)) 18 0) = (A 8 0) from rfl] <;> omega) | omega) n26501a n26501b hF
      replace hF := FE.neg hF c26452
      by_cases c26504 : (I 15).toInt = 1
      · have ec26504 : (I 15) = 1 := Int32.toInt_inj.mp c26504
        replace hF := FE.pos hF c26504
        rw [ec26504]
        show GW κ 2 0 0 (wM r g I (up2 A 18 (cpo (fun _ => 0) (A 18) 0 165)) L) 35 [(1, .int 165), (0, .ref (r 0))] [.int 1, .ref (r 9), .int 0, .ref (r 19)]
        refine lM_8 (v := (A 8 1)) hk (vp_in_iff.mpr ⟨by decide, by decide⟩) rfl dX12_begins_35 ?_
        have f26505 := IvM_s8_1 hIv
        refine sM_18 (j := 0) hk (vp_in_iff.mpr ⟨by decide, by decide⟩) (by decide) dX12_begins_36 ?_
        refine g_iconst (v := 0) hk dX12_begins_37 (by decide) ?_
        refine g_istore_n (lv' := [(1, .int 0), (0, .ref (r 0))]) hk dX12_begins_38 (by decide) rfl ?_
        have lp26535 : ∀ (n26536 : Nat) (x26506 : Int32) (I26508 : Nat → Int32) (A26508 : Nat → Nat → Int32) (L26508 : Nat → Nat → Int64), (Md [] I I26508) → (Md [18] (up3 (up2 A 18 (cpo (fun _ => 0) (A 18) 0 165)) 18 0 (A 8 1)) A26508) → (IvM I26508 A26508) → (L26508 = L) → (0 ≤ x26506.toInt) → (x26506.toInt ≤ 160) → (0 ≤ (A26508 18 0).toInt) → ((A26508 18 0).toInt ≤ 160) → (161 - x26506.toInt < (n26536 : Int)) → (0 < n26536) → (FE (fM12_begins I A L) (itr_iIAL dfM (bM12_begins_39x I A) n26536 x26506 I26508 A26508 L26508)) → GW κ 2 0 0 (wM r g I26508 A26508 L26508) 39 [(1, .int x26506), (0, .ref (r 0))] [] := by
          intro n26536
          induction n26536 with
          | zero =>
            intro x26506 I26508 A26508 L26508 hI26508 hA26508 hV26508 hL26508 h26531 h26532 h26533 h26534 m26537 m26537z hF
            exact absurd m26537z (Nat.lt_irrefl 0)
          | succ n26536 ih26539 =>
            intro x26506 I26508 A26508 L26508 hI26508 hA26508 hV26508 hL26508 h26531 h26532 h26533 h26534 m26537 m26537z hF
            replace hF := FE.itr_iIAL hF
            refine g_iload_n hk dX12_begins_39 rfl ?_
            refine g_aload_n hk dX12_begins_40 rfl ?_
            refine gM_r0_36 hk hin12 (List.mem_cons_of_mem _ (List.mem_append_left _ (List.mem_of_getElem? (i := 0) rfl))) dX12_begins_41 ?_
            refine g_iconst (v := 0) hk dX12_begins_44 (by decide) ?_
            refine lM_18 (v := (A26508 18 0)) hk (vp_in_iff.mpr ⟨by decide, by decide⟩) rfl dX12_begins_45 ?_
            refine g_icmp_ge (tgt := 78) (a := x26506.toInt) (b := (A26508 18 0).toInt) hk dX12_begins_46 (by decide) rfl rfl (fun c26540 => ?_) (fun c26540 => ?_)
            · skip
              replace hF := FE.pos hF c26540
              refine g_aload_n hk dX12_begins_78 rfl ?_
              refine gM_r0_36 hk hin12 (List.mem_cons_of_mem _ (List.mem_append_left _ (List.mem_of_getElem? (i := 0) rfl))) dX12_begins_79 ?_
              refine g_sipush (v := 161) hk dX12_begins_82 (by decide) ?_
              refine g_aload_n hk dX12_begins_85 rfl ?_
              refine gM_r0_31 hk hin12 (List.mem_cons_of_mem _ (List.mem_append_left _ (List.mem_of_getElem? (i := 3) rfl))) dX12_begins_86 ?_
              refine g_aload_n hk dX12_begins_89 rfl ?_
              refine gM_i15 (v := (I 15)) hk hin12 (List.mem_cons_of_mem _ (List.mem_append_left _ (List.mem_of_getElem? (i := 2) rfl))) dX12_begins_90 (hI26508 15 rfl) ?_
              by_cases c26541 : (I 15).toInt = 1
              · have ec26541 : (I 15) = 1 := Int32.toInt_inj.mp c26541
                replace hF := FE.pos hF c26541
                rw [ec26541]
                show GW κ 2 0 0 (wM r g I26508 A26508 L26508) 93 [(1, .int x26506), (0, .ref (r 0))] [.int 1, .ref (r 14), .int 161, .ref (r 19)]
                refine lM_13 (v := (A 13 1)) hk (vp_in_iff.mpr ⟨by decide, by decide⟩) (congrFun (hA26508 13 rfl) _) dX12_begins_93 ?_
                refine sM_18 (j := 161) hk (vp_in_iff.mpr ⟨by decide, by decide⟩) (by decide) dX12_begins_94 ?_
                refine g_aload_n hk dX12_begins_95 rfl ?_
                refine gM_r0_36 hk hin12 (List.mem_cons_of_mem _ (List.mem_append_left _ (List.mem_of_getElem? (i := 0) rfl))) dX12_begins_96 ?_
                refine g_sipush (v := 162) hk dX12_begins_99 (by decide) ?_
                refine g_aload_n hk dX12_begins_102 rfl ?_
                refine gM_r0_32 hk hin12 (List.mem_cons_of_mem _ (List.mem_append_left _ (List.mem_of_getElem? (i := 4) rfl))) dX12_begins_103 ?_
                refine g_aload_n hk dX12_begins_106 rfl ?_
                refine gM_i15 (v := (I 15)) hk hin12 (List.mem_cons_of_mem _ (List.mem_append_left _ (List.mem_of_getElem? (i := 2) rfl))) dX12_begins_107 (hI26508 15 rfl) ?_
                by_cases c26542 : (I 15).toInt = 1
                · have ec26542 : (I 15) = 1 := Int32.toInt_inj.mp c26542
                  replace hF := FE.pos hF c26542
                  rw [ec26542]
                  show GW κ 2 0 0 (wM r g I26508 (up3 A26508 18 161 (A 13 1)) L26508) 110 [(1, .int x26506), (0, .ref (r 0))] [.int 1, .ref (r 15), .int 162, .ref (r 19)]
                  refine lM_14 (v := (A 14 1)) hk (vp_in_iff.mpr ⟨by decide, by decide⟩) (congrFun (hA26508 14 rfl) _) dX12_begins_110 ?_
                  refine sM_18 (j := 162) hk (vp_in_iff.mpr ⟨by decide, by decide⟩) (by decide) dX12_begins_111 ?_
                  refine g_aload_n hk dX12_begins_112 rfl ?_
                  refine gM_r0_36 hk hin12 (List.mem_cons_of_mem _ (List.mem_append_left _ (List.mem_of_getElem? (i := 0) rfl))) dX12_begins_113 ?_
                  refine g_sipush (v := 163) hk dX12_begins_116 (by decide) ?_
                  refine g_aload_n hk dX12_begins_119 rfl ?_
                  refine gM_r0_33 hk hin12 (List.mem_cons_of_mem _ (List.mem_append_left _ (List.mem_of_getElem? (i := 5) rfl))) dX12_begins_120 ?_
                  refine g_aload_n hk dX12_begins_123 rfl ?_
                  refine gM_i15 (v := (I 15)) hk hin12 (List.mem_cons_of_mem _ (List.mem_append_left _ (List.mem_of_getElem? (i := 2) rfl))) dX12_begins_124 (hI26508 15 rfl) ?_
                  by_cases c26543 : (I 15).toInt = 1
                  · have ec26543 : (I 15) = 1 := Int32.toInt_inj.mp c26543
                    replace hF := FE.pos hF c26543
                    rw [ec26543]
                    show GW κ 2 0 0 (wM r g I26508 (up3 (up3 A26508 18 161 (A 13 1)) 18 162 (A 14 1)) L26508) 127 [(1, .int x26506), (0, .ref (r 0))] [.int 1, .ref (r 16), .int 163, .ref (r 19)]
                    refine lM_15 (v := (A 15 1)) hk (vp_in_iff.mpr ⟨by decide, by decide⟩) (congrFun (hA26508 15 rfl) _) dX12_begins_127 ?_
                    refine sM_18 (j := 163) hk (vp_in_iff.mpr ⟨by decide, by decide⟩) (by decide) dX12_begins_128 ?_
                    refine g_aload_n hk dX12_begins_129 rfl ?_
                    refine gM_r0_36 hk hin12 (List.mem_cons_of_mem _ (List.mem_append_left _ (List.mem_of_getElem? (i := 0) rfl))) dX12_begins_130 ?_
                    refine g_sipush (v := 164) hk dX12_begins_133 (by decide) ?_
                    refine g_aload_n hk dX12_begins_136 rfl ?_
                    refine gM_r0_34 hk hin12 (List.mem_cons_of_mem _ (List.mem_append_left _ (List.mem_of_getElem? (i := 6) rfl))) dX12_begins_137 ?_
                    refine g_aload_n hk dX12_begins_140 rfl ?_
                    refine gM_i15 (v := (I 15)) hk hin12 (List.mem_cons_of_mem _ (List.mem_append_left _ (List.mem_of_getElem? (i := 2) rfl))) dX12_begins_141 (hI26508 15 rfl) ?_
                    by_cases c26544 : (I 15).toInt = 1
                    · have ec26544 : (I 15) = 1 := Int32.toInt_inj.mp c26544
                      replace hF := FE.pos hF c26544
                      rw [ec26544]
                      show GW κ 2 0 0 (wM r g I26508 (up3 (up3 (up3 A26508 18 161 (A 13 1)) 18 162 (A 14 1)) 18 163 (A 15 1)) L26508) 144 [(1, .int x26506), (0, .ref (r 0))] [.int 1, .ref (r 17), .int 164, .ref (r 19)]
                      refine lM_16 (v := (A 16 1)) hk (vp_in_iff.mpr ⟨by decide, by decide⟩) (congrFun (hA26508 16 rfl) _) dX12_begins_144 ?_
                      refine sM_18 (j := 164) hk (vp_in_iff.mpr ⟨by decide, by decide⟩) (by decide) dX12_begins_145 ?_
                      have g26545 : 1 ≤ (A 16 1).toInt := ((IvM_lv (I := I) (A := A) hIv).2 (by omega)).1
                      exact g_vret hk hR ⟨I26508, (up3 (up3 (up3 (up3 A26508 18 161 (A 13 1)) 18 162 (A 14 1)) 18 163 (A 15 1)) 18 164 (A 16 1)), L26508, (show Md [] I I26508 from (Md.tr Md.rf hI26508 rfl)), (show Md [18] A (up3 (up3 (up3 (up3 A26508 18 161 (A 13 1)) 18 162 (A 14 1)) 18 163 (A 15 1)) 18 164 (A 16 1)) from (Md.up3 (Md.up3 (Md.up3 (Md.up3 (Md.tr (Md.up3 (Md.up2 Md.rf rfl) rfl) hA26508 rfl) rfl) rfl) rfl) rfl)), ⟨(IvM_f1 (I := I26508) (A := A26508) hV26508), (IvM_f2 (I := I26508) (A := A26508) hV26508), (IvM_f3 (I := I26508) (A := A26508) hV26508), (IvM_f4 (I := I26508) (A := A26508) hV26508), (IvM_f6 (I := I26508) (A := A26508) hV26508), (IvM_f8 (I := I26508) (A := A26508) hV26508), (IvM_f15 (I := I26508) (A := A26508) hV26508), (IvM_f16 (I := I26508) (A := A26508) hV26508), (IvM_f17 (I := I26508) (A := A26508) hV26508), (IvM_f18 (I := I26508) (A := A26508) hV26508), (IvM_f22 (I := I26508) (A := A26508) hV26508), (IvM_f23 (I := I26508) (A := A26508) hV26508), (IvM_f24 (I := I26508) (A := A26508) hV26508), (IvM_a11 (I := I26508) (A := A26508) hV26508), (IvM_a26 (I := I26508) (A := A26508) hV26508), (IvM_s8_0 (I := I26508) (A := A26508) hV26508), (IvM_s8_1 (I := I26508) (A := A26508) hV26508), (IvM_s10_0 (I := I26508) (A := A26508) hV26508), (IvM_s10_1 (I := I26508) (A := A26508) hV26508), (IvM_s17_0 (I := I26508) (A := A26508) hV26508), (IvM_s17_164 (I := I26508) (A := A26508) hV26508), (IvM_lv (I := I26508) (A := A26508) hV26508), (IvM_sd (I := I26508) (A := A26508) hV26508), (IvM_nq (I := I26508) (A := A26508) hV26508), (IvM_hr (I := I26508) (A := A26508) hV26508), (IvM_hh (I := I26508) (A := A26508) hV26508), trivial⟩, (by rw [show ((up3 (up3 (up3 (up3 A26508 18 161 (A 13 1)) 18 162 (A 14 1)) 18 163 (A 15 1)) 18 164 (A 16 1)) 18 0) = (A26508 18 0) from rfl] <;> omega), (by rw [show ((up3 (up3 (up3 (up3 A26508 18 161 (A 13 1)) 18 162 (A 14 1)) 18 163 (A 15 1)) 18 164 (A 16 1)) 18 0) = (A26508 18 0) from rfl] <;> omega), (by rw [show ((up3 (up3 (up3 (up3 A26508 18 161 (A 13 1)) 18 162 (A 14 1)) 18 163 (A 15 1)) 18 164 (A 16 1)) 18 164) = (A 16 1) from rfl] <;> omega), (show L26508 = L from hL26508), hF, rfl, rfl⟩ dX12_begins_146
                    replace hF := FE.neg hF c26544
                    exfalso; omega
                  replace hF := FE.neg hF c26543
                  exfalso; omega
                replace hF := FE.neg hF c26542
                exfalso; omega
              replace hF := FE.neg hF c26541
              exfalso; omega
            · skip
              replace hF := FE.neg hF c26540
              refine g_aload_n hk dX12_begins_49 rfl ?_
              refine gM_r0_36 hk hin12 (List.mem_cons_of_mem _ (List.mem_append_left _ (List.mem_of_getElem? (i := 0) rfl))) dX12_begins_50 ?_
              refine g_iconst (v := 1) hk dX12_begins_53 (by decide) ?_
              refine g_iload_n hk dX12_begins_54 rfl ?_
              refine g_iadd hk dX12_begins_55 ?_
              refine g_topi (fun y26546 ey26546 => ?_)
              replace hF := FE.lt hF ey26546
              have hy26546 : y26546.toInt = 1 + x26506.toInt := i32_add ey26546 rfl rfl (by omega) (by omega)
              refine g_aload_n hk dX12_begins_56 rfl ?_
              refine gM_r0_27 hk hin12 (List.mem_cons_of_mem _ (List.mem_append_left _ (List.mem_of_getElem? (i := 7) rfl))) dX12_begins_57 ?_
              refine g_sipush (v := 160) hk dX12_begins_60 (by decide) ?_
              refine g_aload_n hk dX12_begins_63 rfl ?_
              refine gM_i15 (v := (I 15)) hk hin12 (List.mem_cons_of_mem _ (List.mem_append_left _ (List.mem_of_getElem? (i := 2) rfl))) dX12_begins_64 (hI26508 15 rfl) ?_
              by_cases c26547 : (I 15).toInt = 1
              · have ec26547 : (I 15) = 1 := Int32.toInt_inj.mp c26547
                replace hF := FE.pos hF c26547
                rw [ec26547]
                show GW κ 2 0 0 (wM r g I26508 A26508 L26508) 67 [(1, .int x26506), (0, .ref (r 0))] [.int 1, .int 160, .ref (r 10), .int y26546, .ref (r 19)]
                refine g_imul hk dX12_begins_67 ?_
                refine g_norm (v := 160) (by decide) ?_
                refine g_iload_n hk dX12_begins_68 rfl ?_
                refine g_iadd hk dX12_begins_69 ?_
                refine g_topi (fun y26548 ey26548 => ?_)
                replace hF := FE.lt hF ey26548
                have hy26548 : y26548.toInt = 160 + x26506.toInt := i32_add ey26548 rfl rfl (by omega) (by omega)
                refine lM_9 (v := (A 9 y26548.toNatClampNeg)) hk (vp_in_iff.mpr ⟨by omega, by omega⟩) (congrFun (hA26508 9 rfl) _) dX12_begins_70 ?_
                refine sM_18 (j := y26546.toNatClampNeg) hk (vp_in_iff.mpr ⟨by omega, by omega⟩) rfl dX12_begins_71 ?_
                have hS26549 : (up3 A26508 18 (y26546.toNatClampNeg) (A 9 y26548.toNatClampNeg)) 18 0 = (A26508 18 0) := (up3_ne (by have := cl_int (y := y26546) (by omega); omega)).trans (show A26508 18 0 = (A26508 18 0) from rfl)
                have hS26550 : (up3 A26508 18 (y26546.toNatClampNeg) (A 9 y26548.toNatClampNeg)) 18 164 = (A26508 18 164) := (up3_ne (by have := cl_int (y := y26546) (by omega); omega)).trans (show A26508 18 164 = (A26508 18 164) from rfl)
                obtain ⟨y26551, ey26551⟩ : ∃ y : Int32, y = x26506 + Int32.ofInt 1 := ⟨_, rfl⟩
                replace hF := FE.lt hF ey26551
                have hy26551 : y26551.toInt = x26506.toInt + 1 := i32_add ey26551 rfl (by decide) (by omega) (by omega)
                refine g_iinc (v := y26551) (lv' := [(1, .int y26551), (0, .ref (r 0))]) hk 0 dX12_begins_72 rfl ey26551.symm (by decide) rfl ?_
                refine g_goto (tgt := 39) hk dX12_begins_75 (by decide) ?_
                exact g_lv (List.forall_mem_cons.mpr ⟨List.mem_of_getElem? (i := 0) rfl, (List.forall_mem_cons.mpr ⟨List.mem_of_getElem? (i := 1) rfl, (fun _ h => absurd h List.not_mem_nil)⟩)⟩) (ih26539 y26551 I26508 (up3 A26508 18 (y26546.toNatClampNeg) (A 9 y26548.toNatClampNeg)) L26508 (show Md [] I I26508 from Md.tr hI26508 (show Md [] I26508 I26508 from Md.rf) rfl) (show Md [18] (up3 (up2 A 18 (cpo (fun _ => 0) (A 18) 0 165)) 18 0 (A 8 1)) (up3 A26508 18 (y26546.toNatClampNeg) (A 9 y26548.toNatClampNeg)) from Md.tr hA26508 (show Md [18] A26508 (up3 A26508 18 (y26546.toNatClampNeg) (A 9 y26548.toNatClampNeg)) from (Md.up3 Md.rf rfl)) rfl) ⟨(IvM_f1 (I := I26508) (A := A26508) hV26508), (IvM_f2 (I := I26508) (A := A26508) hV26508), (IvM_f3 (I := I26508) (A := A26508) hV26508), (IvM_f4 (I := I26508) (A := A26508) hV26508), (IvM_f6 (I := I26508) (A := A26508) hV26508), (IvM_f8 (I := I26508) (A := A26508) hV26508), (IvM_f15 (I := I26508) (A := A26508) hV26508), (IvM_f16 (I := I26508) (A := A26508) hV26508), (IvM_f17 (I := I26508) (A := A26508) hV26508), (IvM_f18 (I := I26508) (A := A26508) hV26508), (IvM_f22 (I := I26508) (A := A26508) hV26508), (IvM_f23 (I := I26508) (A := A26508) hV26508), (IvM_f24 (I := I26508) (A := A26508) hV26508), (IvM_a11 (I := I26508) (A := A26508) hV26508), (IvM_a26 (I := I26508) (A := A26508) hV26508), (IvM_s8_0 (I := I26508) (A := A26508) hV26508), (IvM_s8_1 (I := I26508) (A := A26508) hV26508), (IvM_s10_0 (I := I26508) (A := A26508) hV26508), (IvM_s10_1 (I := I26508) (A := A26508) hV26508), (IvM_s17_0 (I := I26508) (A := A26508) hV26508), (IvM_s17_164 (I := I26508) (A := A26508) hV26508), (IvM_lv (I := I26508) (A := A26508) hV26508), (IvM_sd (I := I26508) (A := A26508) hV26508), (IvM_nq (I := I26508) (A := A26508) hV26508), (IvM_hr (I := I26508) (A := A26508) hV26508), (IvM_hh (I := I26508) (A := A26508) hV26508), trivial⟩ (show L26508 = L from hL26508) (by omega) (by omega) (by first | (rw [show ((up3 A26508 18 (y26546.toNatClampNeg) (A 9 y26548.toNatClampNeg)) 18 0) = (A26508 18 0) from hS26549] <;> omega) | omega) (by first | (rw [show ((up3 A26508 18 (y26546.toNatClampNeg) (A 9 y26548.toNatClampNeg)) 18 0) = (A26508 18 0) from hS26549] <;> omega) | omega) (by omega) (by omega) hF)
              replace hF := FE.neg hF c26547
              exfalso; omega
        have k26552 : (0 : Int32).toInt = 0 := rfl
        have b26554 := Int32.le_toInt (0 : Int32)
        have b26555 := Int32.toInt_lt (0 : Int32)
        have n26553a : 161 - (0 : Int32).toInt < (FU : Int) := by have := FU_eq; omega
        have n26553b : 0 < FU := by have := FU_eq; omega
        exact lp26535 FU 0 I (up3 (up2 A 18 (cpo (fun _ => 0) (A 18) 0 165)) 18 0 (A 8 1)) L Md.rf Md.rf ⟨(IvM_f1 (I := I) (A := A) hIv), (IvM_f2 (I := I) (A := A) hIv), (IvM_f3 (I := I) (A := A) hIv), (IvM_f4 (I := I) (A := A) hIv), (IvM_f6 (I := I) (A := A) hIv), (IvM_f8 (I := I) (A := A) hIv), (IvM_f15 (I := I) (A := A) hIv), (IvM_f16 (I := I) (A := A) hIv), (IvM_f17 (I := I) (A := A) hIv), (IvM_f18 (I := I) (A := A) hIv), (IvM_f22 (I := I) (A := A) hIv), (IvM_f23 (I := I) (A := A) hIv), (IvM_f24 (I := I) (A := A) hIv), (IvM_a11 (I := I) (A := A) hIv), (IvM_a26 (I := I) (A := A) hIv), (IvM_s8_0 (I := I) (A := A) hIv), (IvM_s8_1 (I := I) (A := A) hIv), (IvM_s10_0 (I := I) (A := A) hIv), (IvM_s10_1 (I := I) (A := A) hIv), (IvM_s17_0 (I := I) (A := A) hIv), (IvM_s17_164 (I := I) (A := A) hIv), (IvM_lv (I := I) (A := A) hIv), (IvM_sd (I := I) (A := A) hIv), (IvM_nq (I := I) (A := A) hIv), (IvM_hr (I := I) (A := A) hIv), (IvM_hh (I := I) (A := A) hIv), trivial⟩ rfl (by omega) (by omega) (by first | (rw [show ((up3 (up2 A 18 (cpo (fun _ => 0) (A 18) 0 165)) 18 0 (A 8 1)) 18 0) = (A 8 1) from rfl] <;> omega) | omega) (by first | (rw [show ((up3 (up2 A 18 (cpo (fun _ => 0) (A 18) 0 165)) 18 0 (A 8 1)) 18 0) = (A 8 1) from rfl] <;> omega) | omega) n26553a n26553b hF
      replace hF := FE.neg hF c26504
      exfalso; omega
    | succ n26448 ih26450 =>
      intro k26447 hk26447
      obtain ⟨x26449, ex26449⟩ : ∃ x : Int32, x = nI k26447 := ⟨_, rfl⟩
      have hx26449 : x26449.toInt = (k26447 : Int) := by rw [ex26449]; exact nI_toInt (by omega)
      have cx26449 : x26449.toNatClampNeg = k26447 := cl_nat hx26449
      rw [← ex26449]
      refine g_iload_n hk dX12_begins_2 rfl ?_
      refine g_sipush (v := 165) hk dX12_begins_3 (by decide) ?_
      refine g_icmp_ge (tgt := 22) (a := x26449.toInt) (b := 165) hk dX12_begins_6 (by decide) rfl rfl (fun z9 => absurd z9 (show ¬ (165 ≤ x26449.toInt) from by omega)) (fun _ => ?_)
      refine g_aload_n hk dX12_begins_9 rfl ?_
      refine gM_r0_36 hk hin12 (List.mem_cons_of_mem _ (List.mem_append_left _ (List.mem_of_getElem? (i := 0) rfl))) dX12_begins_10 ?_
      refine g_iload_n hk dX12_begins_13 rfl ?_
      refine g_iconst (v := 0) hk dX12_begins_14 (by decide) ?_
      have k26556 : (0 : Int32).toInt = 0 := rfl
      refine sM_18 (j := x26449.toNatClampNeg) hk (vp_in_iff.mpr ⟨by omega, by omega⟩) rfl dX12_begins_15 ?_
      obtain ⟨y26557, ey26557⟩ : ∃ y : Int32, y = x26449 + Int32.ofInt 1 := ⟨_, rfl⟩
      have hy26557 : y26557.toInt = x26449.toInt + 1 := i32_add ey26557 rfl (by decide) (by omega) (by omega)
      refine g_iinc (v := y26557) (lv' := [(1, .int y26557), (0, .ref (r 0))]) hk 0 dX12_begins_16 rfl ey26557.symm (by decide) rfl ?_
      refine g_goto (tgt := 2) hk dX12_begins_19 (by decide) ?_
      have q26558 := cl_int (y := x26449) (by omega)
      have eW : (up3 (up2 A 18 (cpo (fun _ => 0) (A 18) 0 k26447)) 18 (x26449.toNatClampNeg) 0) = (up2 A 18 (cpo (fun _ => 0) (A 18) 0 (k26447 + 1))) := cpo_st (by omega) rfl
      have fy : y26557 = nI (k26447 + 1) := nI_of_toInt (by omega) (by omega)
      rw [eW, fy]
      exact g_lv (List.forall_mem_cons.mpr ⟨List.mem_of_getElem? (i := 0) rfl, (List.forall_mem_cons.mpr ⟨List.mem_of_getElem? (i := 1) rfl, (fun _ h => absurd h List.not_mem_nil)⟩)⟩) (ih26450 (k26447 + 1) (by omega))
  have lp26446e := lp26446 165 0 (by omega)
  rw [cpo_0] at lp26446e
  exact lp26446e
noncomputable def fM12_keepsRow (I : Nat → Int32) (A : Nat → Nat → Int32) (L : Nat → Nat → Int64) : Int32 × (Nat → Int32) × (Nat → Nat → Int32) × (Nat → Nat → Int64) := (0, I, (up2 A 17 (cpo (A 18) (A 17) 0 165)), L)
def wo_j139_X12_keepsRow : List Cond := [Cond.fieldLink RX12 70 "WarpDeskModel" "now" "[I", Cond.fieldLink RX12 73 "WarpDeskModel" "row" "[I"]
def wz_j139_X12_keepsRow : List Cond := .code yX12_keepsRow cX12_keepsRow 2 none :: (wo_j139_X12_keepsRow ++ (wsX120 ++ ([] : List Cond)))
theorem zg_j139_X12_keepsRow : ∀ w ∈ wz_j139_X12_keepsRow, goodWord w = true := zg_cons rfl (zg_app (by decide +kernel) (zg_app zgU_wsX120 zg_nil))
theorem zi_j139_X12_keepsRow : ∀ w ∈ wz_j139_X12_keepsRow, w ∈ lw_tbl := zi_cons zw_1379 (zi_app (zi_cons zw_1413 (zi_cons zw_1414 zi_nil)) (zi_app inX12 zi_nil))
set_option maxHeartbeats 4000000 in
set_option maxRecDepth 100000 in
theorem j139_X12_keepsRow (l : Launch) (D : va_G) (zt : Nat × Nat × Nat × (Nat → Nat) × (Nat → Nat)) (r : Nat → Nat) (g : Nat → ClassId) (I : Nat → Int32) (A : Nat → Nat → Int32) (L : Nat → Nat → Int64) (hIv : IvM I A) (hp0 : 0 ≤ (A 18 0).toInt) (hp1 : (A 18 0).toInt ≤ 160) (hp2 : 1 ≤ (A 18 164).toInt) : GM l D zt (tyM g) yX12_keepsRow wz_j139_X12_keepsRow ({ frames := 0, cells := 0, slots := 0, locals := 0 } : Room) [.ref (r 0)] (wM r g I A L) (fun v _ w' => ∃ (I' : Nat → Int32) (A' : Nat → Nat → Int32) (L' : Nat → Nat → Int64), Md [] I I' ∧ Md [17] A A' ∧ IvM I' A' ∧ (L' = L) ∧ FE (fM12_keepsRow I A L) (0, I', A', L') ∧ v = none ∧ w' = wM r g I' A' L') 0 0 := by
  refine GM.of (cc := cX12_keepsRow) (maxL := 2) (ret := none) (own := RX12) (lv := [(0, .ref (r 0))]) (by decide) rfl rfl (Nat.le_of_ble_eq_true rfl) rfl (fun κ sz hk hR hN => ?_)
  have hin12 : ∀ w ∈ u_ws RX12 TX12 55, w ∈ wz_j139_X12_keepsRow := fun w h => (List.mem_cons_of_mem _ (List.mem_append_right _ (List.mem_append_left _ h)))
  have hF : FE (fM12_keepsRow I A L) (fM12_keepsRow I A L) := FE.rf
  refine g_iconst (v := 0) hk dX12_keepsRow_0 (by decide) ?_
  refine g_istore_n (lv' := [(1, .int 0), (0, .ref (r 0))]) hk dX12_keepsRow_1 (by decide) rfl ?_
  have lp26566 : ∀ (n26568 k26567 : Nat), k26567 + n26568 = 165 → GW κ 2 0 0 (wM r g I (up2 A 17 (cpo (A 18) (A 17) 0 k26567)) L) 2 [(1, .int (nI k26567)), (0, .ref (r 0))] [] := by
    intro n26568
    induction n26568 with
    | zero =>
      intro k26567 hk26567
      obtain rfl : k26567 = 165 := by omega
      show GW κ 2 0 0 (wM r g I (up2 A 17 (cpo (A 18) (A 17) 0 165)) L) 2 [(1, .int 165), (0, .ref (r 0))] []
      refine g_iload_n hk dX12_keepsRow_2 rfl ?_
      refine g_sipush (v := 165) hk dX12_keepsRow_3 (by decide) ?_
      refine g_icmp_ge (tgt := 27) (a := 165) (b := 165) hk dX12_keepsRow_6 (by decide) rfl rfl (fun _ => ?_) (fun z9 => absurd (show (165 : Int) ≤ (165 : Int) from by decide) z9)
      have g26571 := Int32.toInt_lt (A 18 164)
      exact g_vret hk hR ⟨I, (up2 A 17 (cpo (A 18) (A 17) 0 165)), L, (show Md [] I I from Md.rf), (show Md [17] A (up2 A 17 (cpo (A 18) (A 17) 0 165)) from (Md.up2 Md.rf rfl)), ⟨(IvM_f1 (I := I) (A := A) hIv), (IvM_f2 (I := I) (A := A) hIv), (IvM_f3 (I := I) (A := A) hIv), (IvM_f4 (I := I) (A := A) hIv), (IvM_f6 (I := I) (A := A) hIv), (IvM_f8 (I := I) (A := A) hIv), (IvM_f15 (I := I) (A := A) hIv), (IvM_f16 (I := I) (A := A) hIv), (IvM_f17 (I := I) (A := A) hIv), (IvM_f18 (I := I) (A := A) hIv), (IvM_f22 (I := I) (A := A) hIv), (IvM_f23 (I := I) (A := A) hIv), (IvM_f24 (I := I) (A := A) hIv), (IvM_a11 (I := I) (A := A) hIv), (IvM_a26 (I := I) (A := A) hIv), (IvM_s8_0 (I := I) (A := A) hIv), (IvM_s8_1 (I := I) (A := A) hIv), (IvM_s10_0 (I := I) (A := A) hIv), (IvM_s10_1 (I := I) (A := A) hIv), (show 0 ≤ ((up2 A 17 (cpo (A 18) (A 17) 0 165)) 17 0).toInt ∧ ((up2 A 17 (cpo (A 18) (A 17) 0 165)) 17 0).toInt ≤ 160 from by rw [show (up2 A 17 (cpo (A 18) (A 17) 0 165)) 17 0 = (A 18 0) from rfl]; exact ⟨by omega, by omega⟩), (show 1 ≤ ((up2 A 17 (cpo (A 18) (A 17) 0 165)) 17 164).toInt ∧ ((up2 A 17 (cpo (A 18) (A 17) 0 165)) 17 164).toInt ≤ 2147483647 from by rw [show (up2 A 17 (cpo (A 18) (A 17) 0 165)) 17 164 = (A 18 164) from rfl]; exact ⟨by omega, by omega⟩), (IvM_lv (I := I) (A := A) hIv), (IvM_sd (I := I) (A := A) hIv), (IvM_nq (I := I) (A := A) hIv), (IvM_hr (I := I) (A := A) hIv), (IvM_hh (I := I) (A := A) hIv), trivial⟩, (show L = L from rfl), hF, rfl, rfl⟩ dX12_keepsRow_27
    | succ n26568 ih26570 =>
      intro k26567 hk26567
      obtain ⟨x26569, ex26569⟩ : ∃ x : Int32, x = nI k26567 := ⟨_, rfl⟩
      have hx26569 : x26569.toInt = (k26567 : Int) := by rw [ex26569]; exact nI_toInt (by omega)
      have cx26569 : x26569.toNatClampNeg = k26567 := cl_nat hx26569
      rw [← ex26569]
      refine g_iload_n hk dX12_keepsRow_2 rfl ?_
      refine g_sipush (v := 165) hk dX12_keepsRow_3 (by decide) ?_
      refine g_icmp_ge (tgt := 27) (a := x26569.toInt) (b := 165) hk dX12_keepsRow_6 (by decide) rfl rfl (fun z9 => absurd z9 (show ¬ (165 ≤ x26569.toInt) from by omega)) (fun _ => ?_)
      refine g_aload_n hk dX12_keepsRow_9 rfl ?_
      refine gM_r0_35 hk hin12 (List.mem_cons_of_mem _ (List.mem_append_left _ (List.mem_of_getElem? (i := 0) rfl))) dX12_keepsRow_10 ?_
      refine g_iload_n hk dX12_keepsRow_13 rfl ?_
      refine g_aload_n hk dX12_keepsRow_14 rfl ?_
      refine gM_r0_36 hk hin12 (List.mem_cons_of_mem _ (List.mem_append_left _ (List.mem_of_getElem? (i := 1) rfl))) dX12_keepsRow_15 ?_
      refine g_iload_n hk dX12_keepsRow_18 rfl ?_
      refine lM_18 (v := (A 18 x26569.toNatClampNeg)) hk (vp_in_iff.mpr ⟨by omega, by omega⟩) rfl dX12_keepsRow_19 ?_
      refine sM_17 (j := x26569.toNatClampNeg) hk (vp_in_iff.mpr ⟨by omega, by omega⟩) rfl dX12_keepsRow_20 ?_
      obtain ⟨y26572, ey26572⟩ : ∃ y : Int32, y = x26569 + Int32.ofInt 1 := ⟨_, rfl⟩
      have hy26572 : y26572.toInt = x26569.toInt + 1 := i32_add ey26572 rfl (by decide) (by omega) (by omega)
      refine g_iinc (v := y26572) (lv' := [(1, .int y26572), (0, .ref (r 0))]) hk 0 dX12_keepsRow_21 rfl ey26572.symm (by decide) rfl ?_
      refine g_goto (tgt := 2) hk dX12_keepsRow_24 (by decide) ?_
      have q26573 := cl_int (y := x26569) (by omega)
      have q26574 := cl_int (y := x26569) (by omega)
      have eW : (up3 (up2 A 17 (cpo (A 18) (A 17) 0 k26567)) 17 (x26569.toNatClampNeg) (A 18 x26569.toNatClampNeg)) = (up2 A 17 (cpo (A 18) (A 17) 0 (k26567 + 1))) := cpo_st (by omega) (show (A 18 x26569.toNatClampNeg) = (A 18 k26567) from by rw [show x26569.toNatClampNeg = k26567 from by omega])
      have fy : y26572 = nI (k26567 + 1) := nI_of_toInt (by omega) (by omega)
      rw [eW, fy]
      exact g_lv (List.forall_mem_cons.mpr ⟨List.mem_of_getElem? (i := 0) rfl, (List.forall_mem_cons.mpr ⟨List.mem_of_getElem? (i := 1) rfl, (fun _ h => absurd h List.not_mem_nil)⟩)⟩) (ih26570 (k26567 + 1) (by omega))
  have lp26566e := lp26566 165 0 (by omega)
  rw [cpo_0] at lp26566e
  exact lp26566e
