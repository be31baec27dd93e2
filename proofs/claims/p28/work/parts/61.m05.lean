noncomputable def bM12_read_224 : (Int32 → (Nat → Int32) → (Nat → Nat → Int32) → (Nat → Nat → Int64) → (Int32 × (Nat → Int32) × (Nat → Nat → Int32) × (Nat → Nat → Int64))) → Int32 → (Nat → Int32) → (Nat → Nat → Int32) → (Nat → Nat → Int64) → (Int32 × (Nat → Int32) × (Nat → Nat → Int32) × (Nat → Nat → Int64)) := fun kk28018 x28004 I28006 A28006 L28006 => if 3 ≤ x28004.toInt then (0, I28006, A28006, L28006) else f_lt (x28004 + Int32.ofInt 1) fun y28021 => kk28018 y28021 I28006 (up3 A28006 27 (x28004.toNatClampNeg) (vp_nar .boolean 0)) L28006
noncomputable def bM12_read_89 : ((Nat → Int32) → (Nat → Nat → Int32) → (Nat → Nat → Int64) → (Int32 × (Nat → Int32) × (Nat → Nat → Int32) × (Nat → Nat → Int64))) → (Nat → Int32) → (Nat → Nat → Int32) → (Nat → Nat → Int64) → (Int32 × (Nat → Int32) × (Nat → Nat → Int32) × (Nat → Nat → Int64)) := fun kk27973 I27872 A27872 L27872 => if (I27872 6).toInt ≠ 0 then ((I27872 6), (upd (upd I27872 10 (I27872 7)) 14 (I27872 12)), A27872, L27872) else if fM12_is I27872 A27872 L27872 0 = 0 then f_bdM (fM12_tellOne I27872 A27872 L27872) fun _ I27985 A27985 L27985 => kk27973 I27985 A27985 L27985 else if (I27872 8).toInt ≤ 0 then f_bdM (fM12_begins (upd (upd (upd I27872 10 (-1)) 14 (-1)) 15 1) A27872 L27872) fun _ I27998 A27998 L27998 => f_bdM (fM12_keepsRow I27998 A27998 L27998) fun _ I28003 A28003 L28003 => itr_iIAL dfM (bM12_read_224) FU 0 (upd I28003 22 0) A28003 L28003 else ((I27872 8), (upd (upd I27872 10 (I27872 9)) 14 (I27872 13)), A27872, L27872)
noncomputable def bM12_read_224x : (Int32 → (Nat → Int32) → (Nat → Nat → Int32) → (Nat → Nat → Int64) → (Int32 × (Nat → Int32) × (Nat → Nat → Int32) × (Nat → Nat → Int64))) → Int32 → (Nat → Int32) → (Nat → Nat → Int32) → (Nat → Nat → Int64) → (Int32 × (Nat → Int32) × (Nat → Nat → Int32) × (Nat → Nat → Int64)) := fun kk28179 x28165 I28167 A28167 L28167 => if 3 ≤ x28165.toInt then (0, I28167, A28167, L28167) else f_lt (x28165 + Int32.ofInt 1) fun y28182 => kk28179 y28182 I28167 (up3 A28167 27 (x28165.toNatClampNeg) (vp_nar .boolean 0)) L28167
noncomputable def bM12_read_89x : ((Nat → Int32) → (Nat → Nat → Int32) → (Nat → Nat → Int64) → (Int32 × (Nat → Int32) × (Nat → Nat → Int32) × (Nat → Nat → Int64))) → (Nat → Int32) → (Nat → Nat → Int32) → (Nat → Nat → Int64) → (Int32 × (Nat → Int32) × (Nat → Nat → Int32) × (Nat → Nat → Int64)) := fun kk28136 I28037 A28037 L28037 => if (I28037 6).toInt ≠ 0 then ((I28037 6), (upd (upd I28037 10 (I28037 7)) 14 (I28037 12)), A28037, L28037) else if fM12_is I28037 A28037 L28037 0 = 0 then f_bdM (fM12_tellOne I28037 A28037 L28037) fun _ I28146 A28146 L28146 => kk28136 I28146 A28146 L28146 else if (I28037 8).toInt ≤ 0 then f_bdM (fM12_begins (upd (upd (upd I28037 10 (-1)) 14 (-1)) 15 0) A28037 L28037) fun _ I28159 A28159 L28159 => f_bdM (fM12_keepsRow I28159 A28159 L28159) fun _ I28164 A28164 L28164 => itr_iIAL dfM (bM12_read_224x) FU 0 (upd I28164 22 0) A28164 L28164 else ((I28037 8), (upd (upd I28037 10 (I28037 9)) 14 (I28037 13)), A28037, L28037)
noncomputable def bM12_read_10 (I : Nat → Int32) (A : Nat → Nat → Int32) : (Int32 → (Nat → Int32) → (Nat → Nat → Int32) → (Nat → Nat → Int64) → (Int32 × (Nat → Int32) × (Nat → Nat → Int32) × (Nat → Nat → Int64))) → Int32 → (Nat → Int32) → (Nat → Nat → Int32) → (Nat → Nat → Int64) → (Int32 × (Nat → Int32) × (Nat → Nat → Int32) × (Nat → Nat → Int64)) := fun kk27862 x10850 I10852 A10852 L10852 => if (I 1).toInt ≤ x10850.toInt then f_bdM (fM12_cut (upd I10852 1 0) A10852 L10852) fun _ I27866 A27866 L27866 => if (I 15).toInt = 0 then itr_IAL dfM (bM12_read_89) FU (upd (upd (upd (upd (upd (upd I27866 4 0) 6 0) 8 0) 11 (-2)) 16 1) 17 0) (up3 (up3 (up3 (up3 (up3 (up3 A27866 8 1 0) 10 1 0) 13 1 2) 14 1 0) 15 1 0) 16 1 8) L27866 else if (I 15).toInt = 1 then itr_IAL dfM (bM12_read_89x) FU (upd (upd (upd (upd (upd (upd I27866 4 0) 6 0) 8 0) 11 (-2)) 16 0) 17 0) (up3 (up3 (up3 (up3 (up3 (up3 A27866 8 0 0) 10 0 0) 13 0 2) 14 0 0) 15 0 0) 16 0 8) L27866 else dfM else f_lt (x10850 + Int32.ofInt 1) fun y28193 => kk27862 y28193 I10852 (up3 A10852 1 (x10850.toNatClampNeg) (vp_nar .byte (A 0 x10850.toNatClampNeg))) L10852
noncomputable def fM12_read (I : Nat → Int32) (A : Nat → Nat → Int32) (L : Nat → Nat → Int64) : Int32 × (Nat → Int32) × (Nat → Nat → Int32) × (Nat → Nat → Int64) := itr_iIAL dfM (bM12_read_10 I A) FU 0 (upd I 2 (I 1)) A L
def wo_j116_X12_read : List Cond := [Cond.fieldLink RX12 124 "WarpDeskModel" "taped" "I", Cond.fieldLink RX12 130 "WarpDeskModel" "size" "I", Cond.methodLink RX12 194 yX12_cut, Cond.instanceMethod yX12_cut, Cond.selects RX12 yX12_cut yX12_cut, Cond.initialized RX12, Cond.fieldLink RX12 164 "WarpDeskModel" "t" "I", Cond.fieldLink RX12 161 "WarpDeskModel" "fault" "I", Cond.fieldLink RX12 176 "WarpDeskModel" "worst" "I", Cond.fieldLink RX12 170 "WarpDeskModel" "here" "I", Cond.fieldLink RX12 197 "WarpDeskModel" "live" "I", Cond.fieldLink RX12 200 "WarpDeskModel" "side" "I", Cond.fieldLink RX12 203 "WarpDeskModel" "names" "I", Cond.methodLink RX12 107 yX12_plain, Cond.instanceMethod yX12_plain, Cond.selects RX12 yX12_plain yX12_plain, Cond.methodLink RX12 188 yX12_is, Cond.instanceMethod yX12_is, Cond.selects RX12 yX12_is yX12_is, Cond.methodLink RX12 206 yX12_tellOne, Cond.instanceMethod yX12_tellOne, Cond.selects RX12 yX12_tellOne yX12_tellOne, Cond.fieldLink RX12 37 "WarpDeskModel" "place" "I", Cond.fieldLink RX12 111 "WarpDeskModel" "cause" "I", Cond.methodLink RX12 118 yX12_begins, Cond.instanceMethod yX12_begins, Cond.selects RX12 yX12_begins yX12_begins, Cond.methodLink RX12 121 yX12_keepsRow, Cond.instanceMethod yX12_keepsRow, Cond.selects RX12 yX12_keepsRow yX12_keepsRow, Cond.fieldLink RX12 209 "WarpDeskModel" "undos" "I", Cond.fieldLink RX12 100 "WarpDeskModel" "isHeld" "[Z", Cond.fieldLink RX12 167 "WarpDeskModel" "faultPlace" "I", Cond.fieldLink RX12 173 "WarpDeskModel" "faultCause" "I", Cond.fieldLink RX12 179 "WarpDeskModel" "worstPlace" "I", Cond.fieldLink RX12 182 "WarpDeskModel" "worstCause" "I", Cond.fieldLink RX12 17 "WarpDeskModel" "text" "[B", Cond.fieldLink RX12 13 "WarpDeskModel" "tape" "[B"]
def wz_j116_X12_read : List Cond := .code yX12_read cX12_read 2 (some .int) :: (wo_j116_X12_read ++ (wsX120 ++ (wz_j117_X12_cut ++ (wz_j124_X12_plain ++ (wz_j125_X12_is ++ (wz_j126_X12_tellOne ++ (wz_j138_X12_begins ++ (wz_j139_X12_keepsRow ++ ([] : List Cond)))))))))
theorem zg_j116_X12_read : ∀ w ∈ wz_j116_X12_read, goodWord w = true := zg_cons rfl (zg_app (by decide +kernel) (zg_app zgU_wsX120 (zg_app zg_j117_X12_cut (zg_app zg_j124_X12_plain (zg_app zg_j125_X12_is (zg_app zg_j126_X12_tellOne (zg_app zg_j138_X12_begins (zg_app zg_j139_X12_keepsRow zg_nil))))))))
theorem zi_j116_X12_read : ∀ w ∈ wz_j116_X12_read, w ∈ lw_tbl := zi_cons zw_1560 (zi_app (zi_cons zw_1381 (zi_cons zw_1383 (zi_cons zw_1561 (zi_cons zw_1563 (zi_cons zw_48 (zi_cons zw_115 (zi_cons zw_1390 (zi_cons zw_1391 (zi_cons zw_1393 (zi_cons zw_1396 (zi_cons zw_1400 (zi_cons zw_1401 (zi_cons zw_1402 (zi_cons zw_1361 (zi_cons zw_1363 (zi_cons zw_44 (zi_cons zw_1583 (zi_cons zw_1585 (zi_cons zw_52 (zi_cons zw_1587 (zi_cons zw_1589 (zi_cons zw_53 (zi_cons zw_1395 (zi_cons zw_1399 (zi_cons zw_1372 (zi_cons zw_1374 (zi_cons zw_45 (zi_cons zw_1376 (zi_cons zw_1378 (zi_cons zw_46 (zi_cons zw_1422 (zi_cons zw_1431 (zi_cons zw_1392 (zi_cons zw_1397 (zi_cons zw_1394 (zi_cons zw_1398 (zi_cons zw_1382 (zi_cons zw_1380 zi_nil)))))))))))))))))))))))))))))))))))))) (zi_app inX12 (zi_app zi_j117_X12_cut (zi_app zi_j124_X12_plain (zi_app zi_j125_X12_is (zi_app zi_j126_X12_tellOne (zi_app zi_j138_X12_begins (zi_app zi_j139_X12_keepsRow zi_nil))))))))
set_option maxHeartbeats 4000000 in
set_option maxRecDepth 100000 in
theorem j116_X12_read (l : Launch) (D : va_G) (zt : Nat × Nat × Nat × (Nat → Nat) × (Nat → Nat)) (r : Nat → Nat) (g : Nat → ClassId) (I : Nat → Int32) (A : Nat → Nat → Int32) (L : Nat → Nat → Int64) (hIv : IvM I A) : GM l D zt (tyM g) yX12_read wz_j116_X12_read ({ frames := 6, cells := 0, slots := 0, locals := 129 } : Room) [.ref (r 0)] (wM r g I A L) (fun v _ w' => ∃ (I' : Nat → Int32) (A' : Nat → Nat → Int32) (L' : Nat → Nat → Int64), Md [1, 2, 3, 4, 6, 7, 8, 9, 10, 11, 12, 13, 14, 15, 16, 17, 22] I I' ∧ Md [1, 2, 3, 4, 8, 9, 10, 11, 12, 13, 14, 15, 16, 17, 18, 27] A A' ∧ IvM I' A' ∧ ∃ y0 : Int32, ((I' 1).toInt = 0) ∧ (0 ≤ y0.toInt) ∧ (y0.toInt ≤ 9) ∧ FE (fM12_read I A L) (y0, I', A', L') ∧ v = some (.int y0) ∧ w' = wM r g I' A' L') 0 0 := by
  refine GM.of (cc := cX12_read) (maxL := 2) (ret := (some .int)) (own := RX12) (lv := [(0, .ref (r 0))]) (by decide) rfl rfl (Nat.le_of_ble_eq_true rfl) rfl (fun κ sz hk hR hN => ?_)
  have hin12 : ∀ w ∈ u_ws RX12 TX12 55, w ∈ wz_j116_X12_read := fun w h => (List.mem_cons_of_mem _ (List.mem_append_right _ (List.mem_append_left _ h)))
  have hF : FE (fM12_read I A L) (fM12_read I A L) := FE.rf
  refine g_aload_n hk dX12_read_0 rfl ?_
  refine g_aload_n hk dX12_read_1 rfl ?_
  refine gM_i1 (v := (I 1)) hk hin12 (List.mem_cons_of_mem _ (List.mem_append_left _ (List.mem_of_getElem? (i := 0) rfl))) dX12_read_2 rfl ?_
  have f10849 := IvM_f1 hIv
  refine pM_i2 hk hin12 (List.mem_cons_of_mem _ (List.mem_append_left _ (List.mem_of_getElem? (i := 1) rfl))) dX12_read_5 ?_
  refine g_iconst (v := 0) hk dX12_read_8 (by decide) ?_
  refine g_istore_n (lv' := [(1, .int 0), (0, .ref (r 0))]) hk dX12_read_9 (by decide) rfl ?_
  have lp27859 : ∀ (n27860 : Nat) (x10850 : Int32) (I10852 : Nat → Int32) (A10852 : Nat → Nat → Int32) (L10852 : Nat → Nat → Int64), (Md [] (upd I 2 (I 1)) I10852) → (Md [1] A A10852) → (IvM I10852 A10852) → (L10852 = L) → (0 ≤ x10850.toInt) → (x10850.toInt ≤ 2000) → (2001 - x10850.toInt < (n27860 : Int)) → (0 < n27860) → (FE (fM12_read I A L) (itr_iIAL dfM (bM12_read_10 I A) n27860 x10850 I10852 A10852 L10852)) → GW κ 2 0 0 (wM r g I10852 A10852 L10852) 10 [(1, .int x10850), (0, .ref (r 0))] [] := by
    intro n27860
    induction n27860 with
    | zero =>
      intro x10850 I10852 A10852 L10852 hI10852 hA10852 hV10852 hL10852 h27857 h27858 m27861 m27861z hF
      exact absurd m27861z (Nat.lt_irrefl 0)
    | succ n27860 ih27863 =>
      intro x10850 I10852 A10852 L10852 hI10852 hA10852 hV10852 hL10852 h27857 h27858 m27861 m27861z hF
      replace hF := FE.itr_iIAL hF
      refine g_iload_n hk dX12_read_10 rfl ?_
      refine g_aload_n hk dX12_read_11 rfl ?_
      refine gM_i2 (v := (I 1)) hk hin12 (List.mem_cons_of_mem _ (List.mem_append_left _ (List.mem_of_getElem? (i := 1) rfl))) dX12_read_12 (hI10852 2 rfl) ?_
      refine g_icmp_ge (tgt := 36) (a := x10850.toInt) (b := (I 1).toInt) hk dX12_read_15 (by decide) rfl rfl (fun c27864 => ?_) (fun c27864 => ?_)
      · skip
        replace hF := FE.pos hF c27864
        refine g_aload_n hk dX12_read_36 rfl ?_
        refine g_iconst (v := 0) hk dX12_read_37 (by decide) ?_
        refine pM_i1 hk hin12 (List.mem_cons_of_mem _ (List.mem_append_left _ (List.mem_of_getElem? (i := 0) rfl))) dX12_read_38 ?_
        refine g_aload_n hk dX12_read_41 rfl ?_
        refine g_callV (n := 0) hk (j117_X12_cut l D zt r g (upd I10852 1 0) A10852 L10852  ⟨(show 0 ≤ (0 : Int32).toInt ∧ (0 : Int32).toInt ≤ 2000 from ⟨by decide, by decide⟩), (IvM_f2 (I := I10852) (A := A10852) hV10852), (IvM_f3 (I := I10852) (A := A10852) hV10852), (IvM_f4 (I := I10852) (A := A10852) hV10852), (IvM_f6 (I := I10852) (A := A10852) hV10852), (IvM_f8 (I := I10852) (A := A10852) hV10852), (IvM_f15 (I := I10852) (A := A10852) hV10852), (IvM_f16 (I := I10852) (A := A10852) hV10852), (IvM_f17 (I := I10852) (A := A10852) hV10852), (IvM_f18 (I := I10852) (A := A10852) hV10852), (IvM_f22 (I := I10852) (A := A10852) hV10852), (IvM_f23 (I := I10852) (A := A10852) hV10852), (IvM_f24 (I := I10852) (A := A10852) hV10852), (IvM_a11 (I := I10852) (A := A10852) hV10852), (IvM_a26 (I := I10852) (A := A10852) hV10852), (IvM_s8_0 (I := I10852) (A := A10852) hV10852), (IvM_s8_1 (I := I10852) (A := A10852) hV10852), (IvM_s10_0 (I := I10852) (A := A10852) hV10852), (IvM_s10_1 (I := I10852) (A := A10852) hV10852), (IvM_s17_0 (I := I10852) (A := A10852) hV10852), (IvM_s17_164 (I := I10852) (A := A10852) hV10852), (IvM_lv (I := I10852) (A := A10852) hV10852), (IvM_sd (I := I10852) (A := A10852) hV10852), (IvM_nq (I := I10852) (A := A10852) hV10852), (IvM_hr (I := I10852) (A := A10852) hV10852), (IvM_hh (I := I10852) (A := A10852) hV10852), trivial⟩) (SP.same _) (fun _ h => h) (gi_V (List.mem_cons_of_mem _ (List.mem_append_left _ (List.mem_of_getElem? (i := 2) rfl))) (List.mem_cons_of_mem _ (List.mem_append_left _ (List.mem_of_getElem? (i := 3) rfl))) (List.mem_cons_of_mem _ (List.mem_append_left _ (List.mem_of_getElem? (i := 4) rfl))) (List.mem_cons_of_mem _ (List.mem_append_left _ (List.mem_of_getElem? (i := 5) rfl))) (gi_sub (fun w h => (List.mem_cons_of_mem _ (List.mem_append_right _ (List.mem_append_right _ (List.mem_append_left _ h))))) zg_j117_X12_cut)) rfl rfl rfl (by decide +kernel) ⟨Nat.le_of_ble_eq_true rfl, Nat.le_of_ble_eq_true rfl⟩ 0 rfl rfl rfl rfl (Nat.le_of_ble_eq_true rfl) ⟨Nat.le_of_ble_eq_true rfl, Nat.le_of_ble_eq_true rfl⟩ dX12_read_42 (fun v ty' w' hp hk' => ?_)
        obtain ⟨I27866, A27866, L27866, hI27866, hA27866, hV27866, hC, rfl, rfl⟩ := hp
        replace hF := FE.bdM hF hC
        show GW κ 2 0 0 (wM r g I27866 A27866 L27866) 45 [(1, .int x10850), (0, .ref (r 0))] []
        refine g_aload_n hk dX12_read_45 rfl ?_
        refine g_iconst (v := 0) hk dX12_read_46 (by decide) ?_
        refine pM_i4 hk hin12 (List.mem_cons_of_mem _ (List.mem_append_left _ (List.mem_of_getElem? (i := 6) rfl))) dX12_read_47 ?_
        refine g_aload_n hk dX12_read_50 rfl ?_
        refine g_iconst (v := 0) hk dX12_read_51 (by decide) ?_
        refine pM_i6 hk hin12 (List.mem_cons_of_mem _ (List.mem_append_left _ (List.mem_of_getElem? (i := 7) rfl))) dX12_read_52 ?_
        refine g_aload_n hk dX12_read_55 rfl ?_
        refine g_iconst (v := 0) hk dX12_read_56 (by decide) ?_
        refine pM_i8 hk hin12 (List.mem_cons_of_mem _ (List.mem_append_left _ (List.mem_of_getElem? (i := 8) rfl))) dX12_read_57 ?_
        refine g_aload_n hk dX12_read_60 rfl ?_
        refine g_bipush (v := (-2)) hk dX12_read_61 (by decide) ?_
        refine pM_i11 hk hin12 (List.mem_cons_of_mem _ (List.mem_append_left _ (List.mem_of_getElem? (i := 9) rfl))) dX12_read_63 ?_
        refine g_aload_n hk dX12_read_66 rfl ?_
        refine g_iconst (v := 1) hk dX12_read_67 (by decide) ?_
        refine g_aload_n hk dX12_read_68 rfl ?_
        refine gM_i15 (v := (I 15)) hk hin12 (List.mem_cons_of_mem _ (List.mem_append_left _ (List.mem_of_getElem? (i := 10) rfl))) dX12_read_69 ((hI27866 15 rfl).trans (hI10852 15 rfl)) ?_
        have f27867 := IvM_f15 hIv
        by_cases c27868 : (I 15).toInt = 0
        · have ec27868 : (I 15) = 0 := Int32.toInt_inj.mp c27868
          replace hF := FE.pos hF c27868
          rw [ec27868]
          show GW κ 2 0 0 (wM r g (upd (upd (upd (upd I27866 4 0) 6 0) 8 0) 11 (-2)) A27866 L27866) 72 [(1, .int x10850), (0, .ref (r 0))] [.int 0, .int 1, .ref (r 0)]
          refine g_isub hk dX12_read_72 ?_
          refine g_norm (v := 1) (by decide) ?_
          refine pM_i16 hk hin12 (List.mem_cons_of_mem _ (List.mem_append_left _ (List.mem_of_getElem? (i := 11) rfl))) dX12_read_73 ?_
          refine g_aload_n hk dX12_read_76 rfl ?_
          refine g_iconst (v := 0) hk dX12_read_77 (by decide) ?_
          refine pM_i17 hk hin12 (List.mem_cons_of_mem _ (List.mem_append_left _ (List.mem_of_getElem? (i := 12) rfl))) dX12_read_78 ?_
          refine g_aload_n hk dX12_read_81 rfl ?_
          refine g_aload_n hk dX12_read_82 rfl ?_
          refine gM_i16 (v := 1) hk hin12 (List.mem_cons_of_mem _ (List.mem_append_left _ (List.mem_of_getElem? (i := 11) rfl))) dX12_read_83 rfl ?_
          have k27869 : (1 : Int32).toInt = 1 := rfl
          refine g_callV (n := 1) hk (j124_X12_plain l D zt r g (upd (upd (upd (upd (upd (upd I27866 4 0) 6 0) 8 0) 11 (-2)) 16 1) 17 0) A27866 L27866 1  (by decide) (by decide)) (SP.same _) (fun _ h => h) (gi_V (List.mem_cons_of_mem _ (List.mem_append_left _ (List.mem_of_getElem? (i := 13) rfl))) (List.mem_cons_of_mem _ (List.mem_append_left _ (List.mem_of_getElem? (i := 14) rfl))) (List.mem_cons_of_mem _ (List.mem_append_left _ (List.mem_of_getElem? (i := 15) rfl))) (List.mem_cons_of_mem _ (List.mem_append_left _ (List.mem_of_getElem? (i := 5) rfl))) (gi_sub (fun w h => (List.mem_cons_of_mem _ (List.mem_append_right _ (List.mem_append_right _ (List.mem_append_right _ (List.mem_append_left _ h)))))) zg_j124_X12_plain)) rfl rfl rfl (by decide +kernel) ⟨Nat.le_of_ble_eq_true rfl, Nat.le_of_ble_eq_true rfl⟩ 0 rfl rfl rfl rfl (Nat.le_of_ble_eq_true rfl) ⟨Nat.le_of_ble_eq_true rfl, Nat.le_of_ble_eq_true rfl⟩ dX12_read_86 (fun v ty' w' hp hk' => ?_)
          obtain ⟨rfl, rfl⟩ := hp
          show GW κ 2 0 0 (wM r g (upd (upd (upd (upd (upd (upd I27866 4 0) 6 0) 8 0) 11 (-2)) 16 1) 17 0) (up3 (up3 (up3 (up3 (up3 (up3 A27866 8 1 0) 10 1 0) 13 1 2) 14 1 0) 15 1 0) 16 1 8) L27866) 89 [(1, .int x10850), (0, .ref (r 0))] []
          have lp27970 : ∀ (n27971 : Nat) (I27872 : Nat → Int32) (A27872 : Nat → Nat → Int32) (L27872 : Nat → Nat → Int64), (Md [4, 6, 7, 8, 9, 11, 12, 13, 17] (upd (upd (upd (upd (upd (upd I27866 4 0) 6 0) 8 0) 11 (-2)) 16 1) 17 0) I27872) → (Md [8, 9, 10, 11, 12, 13, 14, 15, 16] (up3 (up3 (up3 (up3 (up3 (up3 A27866 8 1 0) 10 1 0) 13 1 2) 14 1 0) 15 1 0) 16 1 8) A27872) → (IvM I27872 A27872) → (10 * (401 - (I27872 4).toInt) + (10 - (I27872 6).toInt) < (n27971 : Int)) → (0 < n27971) → (FE (fM12_read I A L) (itr_IAL dfM (bM12_read_89) n27971 I27872 A27872 L27872)) → GW κ 2 0 0 (wM r g I27872 A27872 L27872) 89 [(1, .int x10850), (0, .ref (r 0))] [] := by
            intro n27971
            induction n27971 with
            | zero =>
              intro I27872 A27872 L27872 hI27872 hA27872 hV27872 m27972 m27972z hF
              exact absurd m27972z (Nat.lt_irrefl 0)
            | succ n27971 ih27974 =>
              intro I27872 A27872 L27872 hI27872 hA27872 hV27872 m27972 m27972z hF
              have f27975 := IvM_f4 hV27872
              have f27976 := IvM_f6 hV27872
              replace hF := FE.itr_IAL hF
              refine g_aload_n hk dX12_read_89 rfl ?_
              refine gM_i6 (v := (I27872 6)) hk hin12 (List.mem_cons_of_mem _ (List.mem_append_left _ (List.mem_of_getElem? (i := 7) rfl))) dX12_read_90 rfl ?_
              refine g_if_ne (tgt := 111) (a := (I27872 6).toInt) hk dX12_read_93 (by decide) rfl (fun c27977 => ?_) (fun c27977 => ?_)
              · skip
                replace hF := FE.pos hF c27977
                refine g_aload_n hk dX12_read_111 rfl ?_
                refine g_aload_n hk dX12_read_112 rfl ?_
                refine gM_i6 (v := (I27872 6)) hk hin12 (List.mem_cons_of_mem _ (List.mem_append_left _ (List.mem_of_getElem? (i := 7) rfl))) dX12_read_113 rfl ?_
                refine g_if_le (tgt := 126) (a := (I27872 6).toInt) hk dX12_read_116 (by decide) rfl (fun z9 => absurd z9 (show ¬ ((I27872 6).toInt ≤ 0) from by omega)) (fun _ => ?_)
                refine g_aload_n hk dX12_read_119 rfl ?_
                refine gM_i7 (v := (I27872 7)) hk hin12 (List.mem_cons_of_mem _ (List.mem_append_left _ (List.mem_of_getElem? (i := 32) rfl))) dX12_read_120 rfl ?_
                refine g_goto (tgt := 141) hk dX12_read_123 (by decide) ?_
                refine pM_i10 hk hin12 (List.mem_cons_of_mem _ (List.mem_append_left _ (List.mem_of_getElem? (i := 22) rfl))) dX12_read_141 ?_
                refine g_aload_n hk dX12_read_144 rfl ?_
                refine g_aload_n hk dX12_read_145 rfl ?_
                refine gM_i6 (v := (I27872 6)) hk hin12 (List.mem_cons_of_mem _ (List.mem_append_left _ (List.mem_of_getElem? (i := 7) rfl))) dX12_read_146 rfl ?_
                refine g_if_le (tgt := 159) (a := (I27872 6).toInt) hk dX12_read_149 (by decide) rfl (fun z9 => absurd z9 (show ¬ ((I27872 6).toInt ≤ 0) from by omega)) (fun _ => ?_)
                refine g_aload_n hk dX12_read_152 rfl ?_
                refine gM_i12 (v := (I27872 12)) hk hin12 (List.mem_cons_of_mem _ (List.mem_append_left _ (List.mem_of_getElem? (i := 33) rfl))) dX12_read_153 rfl ?_
                refine g_goto (tgt := 174) hk dX12_read_156 (by decide) ?_
                refine pM_i14 hk hin12 (List.mem_cons_of_mem _ (List.mem_append_left _ (List.mem_of_getElem? (i := 23) rfl))) dX12_read_174 ?_
                refine g_aload_n hk dX12_read_177 rfl ?_
                refine gM_i6 (v := (I27872 6)) hk hin12 (List.mem_cons_of_mem _ (List.mem_append_left _ (List.mem_of_getElem? (i := 7) rfl))) dX12_read_178 rfl ?_
                refine g_if_le (tgt := 189) (a := (I27872 6).toInt) hk dX12_read_181 (by decide) rfl (fun z9 => absurd z9 (show ¬ ((I27872 6).toInt ≤ 0) from by omega)) (fun _ => ?_)
                refine g_aload_n hk dX12_read_184 rfl ?_
                refine gM_i6 (v := (I27872 6)) hk hin12 (List.mem_cons_of_mem _ (List.mem_append_left _ (List.mem_of_getElem? (i := 7) rfl))) dX12_read_185 rfl ?_
                have k27978 : (0 : Int32).toInt = 0 := rfl
                exact g_iret hk hR rfl ⟨(upd (upd I27872 10 (I27872 7)) 14 (I27872 12)), A27872, L27872, (show Md [1, 2, 3, 4, 6, 7, 8, 9, 10, 11, 12, 13, 14, 15, 16, 17, 22] I (upd (upd I27872 10 (I27872 7)) 14 (I27872 12)) from (Md.up (Md.up (Md.tr (Md.up (Md.up (Md.up (Md.up (Md.up (Md.up (Md.tr (Md.up (Md.tr (Md.up Md.rf rfl) hI10852 rfl) rfl) hI27866 rfl) rfl) rfl) rfl) rfl) rfl) rfl) hI27872 rfl) rfl) rfl)), (show Md [1, 2, 3, 4, 8, 9, 10, 11, 12, 13, 14, 15, 16, 17, 18, 27] A A27872 from (Md.tr (Md.up3 (Md.up3 (Md.up3 (Md.up3 (Md.up3 (Md.up3 (Md.tr (Md.tr Md.rf hA10852 rfl) hA27866 rfl) rfl) rfl) rfl) rfl) rfl) rfl) hA27872 rfl)), ⟨(IvM_f1 (I := I27872) (A := A27872) hV27872), (IvM_f2 (I := I27872) (A := A27872) hV27872), (IvM_f3 (I := I27872) (A := A27872) hV27872), (IvM_f4 (I := I27872) (A := A27872) hV27872), (IvM_f6 (I := I27872) (A := A27872) hV27872), (IvM_f8 (I := I27872) (A := A27872) hV27872), (IvM_f15 (I := I27872) (A := A27872) hV27872), (IvM_f16 (I := I27872) (A := A27872) hV27872), (IvM_f17 (I := I27872) (A := A27872) hV27872), (IvM_f18 (I := I27872) (A := A27872) hV27872), (IvM_f22 (I := I27872) (A := A27872) hV27872), (IvM_f23 (I := I27872) (A := A27872) hV27872), (IvM_f24 (I := I27872) (A := A27872) hV27872), (IvM_a11 (I := I27872) (A := A27872) hV27872), (IvM_a26 (I := I27872) (A := A27872) hV27872), (IvM_s8_0 (I := I27872) (A := A27872) hV27872), (IvM_s8_1 (I := I27872) (A := A27872) hV27872), (IvM_s10_0 (I := I27872) (A := A27872) hV27872), (IvM_s10_1 (I := I27872) (A := A27872) hV27872), (IvM_s17_0 (I := I27872) (A := A27872) hV27872), (IvM_s17_164 (I := I27872) (A := A27872) hV27872), (IvM_lv (I := I27872) (A := A27872) hV27872), (IvM_sd (I := I27872) (A := A27872) hV27872), (IvM_nq (I := I27872) (A := A27872) hV27872), (IvM_hr (I := I27872) (A := A27872) hV27872), (IvM_hh (I := I27872) (A := A27872) hV27872), trivial⟩, (I27872 6), (by rw [show (upd (upd I27872 10 (I27872 7)) 14 (I27872 12)) 1 = 0 from ((hI27872 1 rfl).trans (hI27866 1 rfl))]; omega), (by omega), (by omega), hF, rfl, rfl⟩ dX12_read_188
              · skip
                replace hF := FE.neg hF c27977
                refine g_aload_n hk dX12_read_96 rfl ?_
                refine g_iconst (v := 0) hk dX12_read_97 (by decide) ?_
                have k27979 : (0 : Int32).toInt = 0 := rfl
                refine g_callV (n := 1) hk (j125_X12_is l D zt r g I27872 A27872 L27872 0 hV27872) (SP.same _) (fun _ h => h) (gi_V (List.mem_cons_of_mem _ (List.mem_append_left _ (List.mem_of_getElem? (i := 16) rfl))) (List.mem_cons_of_mem _ (List.mem_append_left _ (List.mem_of_getElem? (i := 17) rfl))) (List.mem_cons_of_mem _ (List.mem_append_left _ (List.mem_of_getElem? (i := 18) rfl))) (List.mem_cons_of_mem _ (List.mem_append_left _ (List.mem_of_getElem? (i := 5) rfl))) (gi_sub (fun w h => (List.mem_cons_of_mem _ (List.mem_append_right _ (List.mem_append_right _ (List.mem_append_right _ (List.mem_append_right _ (List.mem_append_left _ h))))))) zg_j125_X12_is)) rfl rfl rfl (by decide +kernel) ⟨Nat.le_of_ble_eq_true rfl, Nat.le_of_ble_eq_true rfl⟩ 0 rfl rfl rfl rfl (Nat.le_of_ble_eq_true rfl) ⟨Nat.le_of_ble_eq_true rfl, Nat.le_of_ble_eq_true rfl⟩ dX12_read_98 (fun v ty' w' hp hk' => ?_)
                rcases hp with ⟨c27980, hC, rfl, rfl⟩ | ⟨c27982, hC, rfl, rfl⟩
                · skip
                  replace hF := FE.pos hF hC
                  rw [show (A27872 2 (I27872 4).toNatClampNeg) = (A27866 2 (I27872 4).toNatClampNeg) from (congrFun (hA27872 2 rfl) _)] at c27980
                  show GW κ 2 0 0 (wM r g I27872 A27872 L27872) 101 [(1, .int x10850), (0, .ref (r 0))] [.int 0]
                  refine g_if_ne (tgt := 111) (a := 0) hk dX12_read_101 (by decide) rfl (fun z9 => absurd z9 (show ¬ ((0 : Int) ≠ (0 : Int)) from by decide)) (fun _ => ?_)
                  refine g_aload_n hk dX12_read_104 rfl ?_
                  refine g_callV (n := 0) hk (j126_X12_tellOne l D zt r g I27872 A27872 L27872  hV27872 (by first | (rw [show (I27872 15) = (I 15) from ((hI27872 15 rfl).trans ((hI27866 15 rfl).trans (hI10852 15 rfl))), show (I27872 16) = (1 : Int32) from (hI27872 16 rfl)] <;> omega) | omega)) (SP.same _) (fun _ h => h) (gi_V (List.mem_cons_of_mem _ (List.mem_append_left _ (List.mem_of_getElem? (i := 19) rfl))) (List.mem_cons_of_mem _ (List.mem_append_left _ (List.mem_of_getElem? (i := 20) rfl))) (List.mem_cons_of_mem _ (List.mem_append_left _ (List.mem_of_getElem? (i := 21) rfl))) (List.mem_cons_of_mem _ (List.mem_append_left _ (List.mem_of_getElem? (i := 5) rfl))) (gi_sub (fun w h => (List.mem_cons_of_mem _ (List.mem_append_right _ (List.mem_append_right _ (List.mem_append_right _ (List.mem_append_right _ (List.mem_append_right _ (List.mem_append_left _ h)))))))) zg_j126_X12_tellOne)) rfl rfl rfl (by decide +kernel) ⟨Nat.le_of_ble_eq_true rfl, Nat.le_of_ble_eq_true rfl⟩ 0 rfl rfl rfl rfl (Nat.le_of_ble_eq_true rfl) ⟨Nat.le_of_ble_eq_true rfl, Nat.le_of_ble_eq_true rfl⟩ dX12_read_105 (fun v ty' w' hp hk' => ?_)
                  obtain ⟨I27985, A27985, L27985, hI27985, hA27985, hV27985, r27986, r27987, r27988, r27989, hC, rfl, rfl⟩ := hp
                  replace hF := FE.bdM hF hC
                  have f27990 := IvM_f4 hV27985
                  have f27991 := IvM_f6 hV27985
                  have f27992 := IvM_f8 hV27872
                  have f27993 := IvM_f8 hV27985
                  show GW κ 2 0 0 (wM r g I27985 A27985 L27985) 108 [(1, .int x10850), (0, .ref (r 0))] []
                  refine g_goto (tgt := 89) hk dX12_read_108 (by decide) ?_
                  exact g_lv (List.forall_mem_cons.mpr ⟨List.mem_of_getElem? (i := 0) rfl, (List.forall_mem_cons.mpr ⟨List.mem_of_getElem? (i := 1) rfl, (fun _ h => absurd h List.not_mem_nil)⟩)⟩) (ih27974 I27985 A27985 L27985 (show Md [4, 6, 7, 8, 9, 11, 12, 13, 17] (upd (upd (upd (upd (upd (upd I27866 4 0) 6 0) 8 0) 11 (-2)) 16 1) 17 0) I27985 from Md.tr hI27872 (show Md [4, 6, 7, 8, 9, 11, 12, 13, 17] I27872 I27985 from (Md.tr Md.rf hI27985 rfl)) rfl) (show Md [8, 9, 10, 11, 12, 13, 14, 15, 16] (up3 (up3 (up3 (up3 (up3 (up3 A27866 8 1 0) 10 1 0) 13 1 2) 14 1 0) 15 1 0) 16 1 8) A27985 from Md.tr hA27872 (show Md [8, 9, 10, 11, 12, 13, 14, 15, 16] A27872 A27985 from (Md.tr Md.rf hA27985 rfl)) rfl) hV27985 (by omega) (by omega) hF)
                · skip
                  replace hF := FE.neg hF (fe_ne hC (by decide))
                  rw [show (A27872 2 (I27872 4).toNatClampNeg) = (A27866 2 (I27872 4).toNatClampNeg) from (congrFun (hA27872 2 rfl) _)] at c27982
                  show GW κ 2 0 0 (wM r g I27872 A27872 L27872) 101 [(1, .int x10850), (0, .ref (r 0))] [.int 1]
                  refine g_if_ne (tgt := 111) (a := 1) hk dX12_read_101 (by decide) rfl (fun _ => ?_) (fun z9 => absurd (show (1 : Int) ≠ (0 : Int) from by decide) z9)
                  refine g_aload_n hk dX12_read_111 rfl ?_
                  refine g_aload_n hk dX12_read_112 rfl ?_
                  refine gM_i6 (v := (I27872 6)) hk hin12 (List.mem_cons_of_mem _ (List.mem_append_left _ (List.mem_of_getElem? (i := 7) rfl))) dX12_read_113 rfl ?_
                  refine g_if_le (tgt := 126) (a := (I27872 6).toInt) hk dX12_read_116 (by decide) rfl (fun _ => ?_) (fun z9 => absurd (show (I27872 6).toInt ≤ 0 from by omega) z9)
                  refine g_aload_n hk dX12_read_126 rfl ?_
                  refine gM_i8 (v := (I27872 8)) hk hin12 (List.mem_cons_of_mem _ (List.mem_append_left _ (List.mem_of_getElem? (i := 8) rfl))) dX12_read_127 rfl ?_
                  have f27994 := IvM_f8 hV27872
                  refine g_if_le (tgt := 140) (a := (I27872 8).toInt) hk dX12_read_130 (by decide) rfl (fun c27995 => ?_) (fun c27995 => ?_)
                  · skip
                    replace hF := FE.pos hF c27995
                    refine g_iconst (v := (-1)) hk dX12_read_140 (by decide) ?_
                    refine pM_i10 hk hin12 (List.mem_cons_of_mem _ (List.mem_append_left _ (List.mem_of_getElem? (i := 22) rfl))) dX12_read_141 ?_
                    refine g_aload_n hk dX12_read_144 rfl ?_
                    refine g_aload_n hk dX12_read_145 rfl ?_
                    refine gM_i6 (v := (I27872 6)) hk hin12 (List.mem_cons_of_mem _ (List.mem_append_left _ (List.mem_of_getElem? (i := 7) rfl))) dX12_read_146 rfl ?_
                    refine g_if_le (tgt := 159) (a := (I27872 6).toInt) hk dX12_read_149 (by decide) rfl (fun _ => ?_) (fun z9 => absurd (show (I27872 6).toInt ≤ 0 from by omega) z9)
                    refine g_aload_n hk dX12_read_159 rfl ?_
                    refine gM_i8 (v := (I27872 8)) hk hin12 (List.mem_cons_of_mem _ (List.mem_append_left _ (List.mem_of_getElem? (i := 8) rfl))) dX12_read_160 rfl ?_
                    refine g_if_le (tgt := 173) (a := (I27872 8).toInt) hk dX12_read_163 (by decide) rfl (fun _ => ?_) (fun z9 => absurd (show (I27872 8).toInt ≤ 0 from by omega) z9)
                    refine g_iconst (v := (-1)) hk dX12_read_173 (by decide) ?_
                    refine pM_i14 hk hin12 (List.mem_cons_of_mem _ (List.mem_append_left _ (List.mem_of_getElem? (i := 23) rfl))) dX12_read_174 ?_
                    refine g_aload_n hk dX12_read_177 rfl ?_
                    refine gM_i6 (v := (I27872 6)) hk hin12 (List.mem_cons_of_mem _ (List.mem_append_left _ (List.mem_of_getElem? (i := 7) rfl))) dX12_read_178 rfl ?_
                    refine g_if_le (tgt := 189) (a := (I27872 6).toInt) hk dX12_read_181 (by decide) rfl (fun _ => ?_) (fun z9 => absurd (show (I27872 6).toInt ≤ 0 from by omega) z9)
                    refine g_aload_n hk dX12_read_189 rfl ?_
                    refine gM_i8 (v := (I27872 8)) hk hin12 (List.mem_cons_of_mem _ (List.mem_append_left _ (List.mem_of_getElem? (i := 8) rfl))) dX12_read_190 rfl ?_
                    refine g_if_le (tgt := 201) (a := (I27872 8).toInt) hk dX12_read_193 (by decide) rfl (fun _ => ?_) (fun z9 => absurd (show (I27872 8).toInt ≤ 0 from by omega) z9)
                    refine g_aload_n hk dX12_read_201 rfl ?_
                    refine g_aload_n hk dX12_read_202 rfl ?_
                    refine gM_i16 (v := 1) hk hin12 (List.mem_cons_of_mem _ (List.mem_append_left _ (List.mem_of_getElem? (i := 11) rfl))) dX12_read_203 (hI27872 16 rfl) ?_
                    refine pM_i15 hk hin12 (List.mem_cons_of_mem _ (List.mem_append_left _ (List.mem_of_getElem? (i := 10) rfl))) dX12_read_206 ?_
                    refine g_aload_n hk dX12_read_209 rfl ?_
                    have g27996 : (I27872 16).toInt = (1 : Int32).toInt := by rw [show (I27872 16) = 1 from (hI27872 16 rfl)]
                    refine g_callV (n := 0) hk (j138_X12_begins l D zt r g (upd (upd (upd I27872 10 (-1)) 14 (-1)) 15 1) A27872 L27872  ⟨(IvM_f1 (I := I27872) (A := A27872) hV27872), (IvM_f2 (I := I27872) (A := A27872) hV27872), (IvM_f3 (I := I27872) (A := A27872) hV27872), (IvM_f4 (I := I27872) (A := A27872) hV27872), (IvM_f6 (I := I27872) (A := A27872) hV27872), (IvM_f8 (I := I27872) (A := A27872) hV27872), (show 0 ≤ (1 : Int32).toInt ∧ (1 : Int32).toInt ≤ 1 from ⟨by decide, by decide⟩), (IvM_f16 (I := I27872) (A := A27872) hV27872), (IvM_f17 (I := I27872) (A := A27872) hV27872), (IvM_f18 (I := I27872) (A := A27872) hV27872), (IvM_f22 (I := I27872) (A := A27872) hV27872), (IvM_f23 (I := I27872) (A := A27872) hV27872), (IvM_f24 (I := I27872) (A := A27872) hV27872), (IvM_a11 (I := I27872) (A := A27872) hV27872), (IvM_a26 (I := I27872) (A := A27872) hV27872), (IvM_s8_0 (I := I27872) (A := A27872) hV27872), (IvM_s8_1 (I := I27872) (A := A27872) hV27872), (IvM_s10_0 (I := I27872) (A := A27872) hV27872), (IvM_s10_1 (I := I27872) (A := A27872) hV27872), (IvM_s17_0 (I := I27872) (A := A27872) hV27872), (IvM_s17_164 (I := I27872) (A := A27872) hV27872), ⟨fun e => absurd (show (1 : Int32).toInt = 0 from e) (by decide), fun e => (by rcases (IvM_sd (I := I27872) (A := A27872) hV27872) with h9 | h9 | h9; exact absurd h9 (by omega); exact absurd h9 (by omega); exact h9.2 (by omega))⟩, (IvM_sd (I := I27872) (A := A27872) hV27872), (IvM_nq (I := I27872) (A := A27872) hV27872), (IvM_hr (I := I27872) (A := A27872) hV27872), (IvM_hh (I := I27872) (A := A27872) hV27872), trivial⟩) (SP.same _) (fun _ h => h) (gi_V (List.mem_cons_of_mem _ (List.mem_append_left _ (List.mem_of_getElem? (i := 24) rfl))) (List.mem_cons_of_mem _ (List.mem_append_left _ (List.mem_of_getElem? (i := 25) rfl))) (List.mem_cons_of_mem _ (List.mem_append_left _ (List.mem_of_getElem? (i := 26) rfl))) (List.mem_cons_of_mem _ (List.mem_append_left _ (List.mem_of_getElem? (i := 5) rfl))) (gi_sub (fun w h => (List.mem_cons_of_mem _ (List.mem_append_right _ (List.mem_append_right _ (List.mem_append_right _ (List.mem_append_right _ (List.mem_append_right _ (List.mem_append_right _ (List.mem_append_left _ h))))))))) zg_j138_X12_begins)) rfl rfl rfl (by decide +kernel) ⟨Nat.le_of_ble_eq_true rfl, Nat.le_of_ble_eq_true rfl⟩ 0 rfl rfl rfl rfl (Nat.le_of_ble_eq_true rfl) ⟨Nat.le_of_ble_eq_true rfl, Nat.le_of_ble_eq_true rfl⟩ dX12_read_210 (fun v ty' w' hp hk' => ?_)
                    obtain ⟨I27998, A27998, L27998, hI27998, hA27998, hV27998, r27999, r28000, r28001, hL27998, hC, rfl, rfl⟩ := hp
                    replace hF := FE.bdM hF hC
                    show GW κ 2 0 0 (wM r g I27998 A27998 L27998) 213 [(1, .int x10850), (0, .ref (r 0))] []
                    refine g_aload_n hk dX12_read_213 rfl ?_
                    refine g_callV (n := 0) hk (j139_X12_keepsRow l D zt r g I27998 A27998 L27998  hV27998 (by omega) (by omega) (by omega)) (SP.same _) (fun _ h => h) (gi_V (List.mem_cons_of_mem _ (List.mem_append_left _ (List.mem_of_getElem? (i := 27) rfl))) (List.mem_cons_of_mem _ (List.mem_append_left _ (List.mem_of_getElem? (i := 28) rfl))) (List.mem_cons_of_mem _ (List.mem_append_left _ (List.mem_of_getElem? (i := 29) rfl))) (List.mem_cons_of_mem _ (List.mem_append_left _ (List.mem_of_getElem? (i := 5) rfl))) (gi_sub (fun w h => (List.mem_cons_of_mem _ (List.mem_append_right _ (List.mem_append_right _ (List.mem_append_right _ (List.mem_append_right _ (List.mem_append_right _ (List.mem_append_right _ (List.mem_append_right _ (List.mem_append_left _ h)))))))))) zg_j139_X12_keepsRow)) rfl rfl rfl (by decide +kernel) ⟨Nat.le_of_ble_eq_true rfl, Nat.le_of_ble_eq_true rfl⟩ 0 rfl rfl rfl rfl (Nat.le_of_ble_eq_true rfl) ⟨Nat.le_of_ble_eq_true rfl, Nat.le_of_ble_eq_true rfl⟩ dX12_read_214 (fun v ty' w' hp hk' => ?_)
                    obtain ⟨I28003, A28003, L28003, hI28003, hA28003, hV28003, hL28003, hC, rfl, rfl⟩ := hp
                    replace hF := FE.bdM hF hC
                    show GW κ 2 0 0 (wM r g I28003 A28003 L28003) 217 [(1, .int x10850), (0, .ref (r 0))] []
                    refine g_aload_n hk dX12_read_217 rfl ?_
                    refine g_iconst (v := 0) hk dX12_read_218 (by decide) ?_
                    refine pM_i22 hk hin12 (List.mem_cons_of_mem _ (List.mem_append_left _ (List.mem_of_getElem? (i := 30) rfl))) dX12_read_219 ?_
                    refine g_iconst (v := 0) hk dX12_read_222 (by decide) ?_
                    refine g_istore_n (lv' := [(1, .int 0), (0, .ref (r 0))]) hk dX12_read_223 (by decide) rfl ?_
                    have lp28015 : ∀ (n28016 : Nat) (x28004 : Int32) (I28006 : Nat → Int32) (A28006 : Nat → Nat → Int32) (L28006 : Nat → Nat → Int64), (Md [] (upd I28003 22 0) I28006) → (Md [27] A28003 A28006) → (IvM I28006 A28006) → (L28006 = L28003) → (0 ≤ x28004.toInt) → (x28004.toInt ≤ 3) → (3 - x28004.toInt < (n28016 : Int)) → (0 < n28016) → (FE (fM12_read I A L) (itr_iIAL dfM (bM12_read_224) n28016 x28004 I28006 A28006 L28006)) → GW κ 2 0 0 (wM r g I28006 A28006 L28006) 224 [(1, .int x28004), (0, .ref (r 0))] [] := by
                      intro n28016
                      induction n28016 with
                      | zero =>
                        intro x28004 I28006 A28006 L28006 hI28006 hA28006 hV28006 hL28006 h28013 h28014 m28017 m28017z hF
                        exact absurd m28017z (Nat.lt_irrefl 0)
                      | succ n28016 ih28019 =>
                        intro x28004 I28006 A28006 L28006 hI28006 hA28006 hV28006 hL28006 h28013 h28014 m28017 m28017z hF
                        replace hF := FE.itr_iIAL hF
                        refine g_iload_n hk dX12_read_224 rfl ?_
                        refine g_iconst (v := 3) hk dX12_read_225 (by decide) ?_
                        refine g_icmp_ge (tgt := 242) (a := x28004.toInt) (b := 3) hk dX12_read_226 (by decide) rfl rfl (fun c28020 => ?_) (fun c28020 => ?_)
                        · skip
                          replace hF := FE.pos hF c28020
                          refine g_iconst (v := 0) hk dX12_read_242 (by decide) ?_
                          exact g_iret hk hR rfl ⟨I28006, A28006, L28006, (show Md [1, 2, 3, 4, 6, 7, 8, 9, 10, 11, 12, 13, 14, 15, 16, 17, 22] I I28006 from (Md.tr (Md.up (Md.tr (Md.tr (Md.up (Md.up (Md.up (Md.tr (Md.up (Md.up (Md.up (Md.up (Md.up (Md.up (Md.tr (Md.up (Md.tr (Md.up Md.rf rfl) hI10852 rfl) rfl) hI27866 rfl) rfl) rfl) rfl) rfl) rfl) rfl) hI27872 rfl) rfl) rfl) rfl) hI27998 rfl) hI28003 rfl) rfl) hI28006 rfl)), (show Md [1, 2, 3, 4, 8, 9, 10, 11, 12, 13, 14, 15, 16, 17, 18, 27] A A28006 from (Md.tr (Md.tr (Md.tr (Md.tr (Md.up3 (Md.up3 (Md.up3 (Md.up3 (Md.up3 (Md.up3 (Md.tr (Md.tr Md.rf hA10852 rfl) hA27866 rfl) rfl) rfl) rfl) rfl) rfl) rfl) hA27872 rfl) hA27998 rfl) hA28003 rfl) hA28006 rfl)), hV28006, 0, (by rw [show I28006 1 = 0 from ((hI28006 1 rfl).trans ((hI28003 1 rfl).trans ((hI27998 1 rfl).trans ((hI27872 1 rfl).trans (hI27866 1 rfl)))))]; omega), (by decide), (by decide), hF, rfl, rfl⟩ dX12_read_243
                        · skip
                          replace hF := FE.neg hF c28020
                          refine g_aload_n hk dX12_read_229 rfl ?_
                          refine gM_r0_53 hk hin12 (List.mem_cons_of_mem _ (List.mem_append_left _ (List.mem_of_getElem? (i := 31) rfl))) dX12_read_230 ?_
                          refine g_iload_n hk dX12_read_233 rfl ?_
                          refine g_iconst (v := 0) hk dX12_read_234 (by decide) ?_
                          refine sM_27 (y := (vp_nar .boolean 0)) (j := x28004.toNatClampNeg) hk (vp_in_iff.mpr ⟨by omega, by omega⟩) rfl rfl dX12_read_235 ?_
                          obtain ⟨y28021, ey28021⟩ : ∃ y : Int32, y = x28004 + Int32.ofInt 1 := ⟨_, rfl⟩
                          replace hF := FE.lt hF ey28021
                          have hy28021 : y28021.toInt = x28004.toInt + 1 := i32_add ey28021 rfl (by decide) (by omega) (by omega)
                          refine g_iinc (v := y28021) (lv' := [(1, .int y28021), (0, .ref (r 0))]) hk 0 dX12_read_236 rfl ey28021.symm (by decide) rfl ?_
                          refine g_goto (tgt := 224) hk dX12_read_239 (by decide) ?_
                          exact g_lv (List.forall_mem_cons.mpr ⟨List.mem_of_getElem? (i := 0) rfl, (List.forall_mem_cons.mpr ⟨List.mem_of_getElem? (i := 1) rfl, (fun _ h => absurd h List.not_mem_nil)⟩)⟩) (ih28019 y28021 I28006 (up3 A28006 27 (x28004.toNatClampNeg) (vp_nar .boolean 0)) L28006 (show Md [] (upd I28003 22 0) I28006 from Md.tr hI28006 (show Md [] I28006 I28006 from Md.rf) rfl) (show Md [27] A28003 (up3 A28006 27 (x28004.toNatClampNeg) (vp_nar .boolean 0)) from Md.tr hA28006 (show Md [27] A28006 (up3 A28006 27 (x28004.toNatClampNeg) (vp_nar .boolean 0)) from (Md.up3 Md.rf rfl)) rfl) ⟨(IvM_f1 (I := I28006) (A := A28006) hV28006), (IvM_f2 (I := I28006) (A := A28006) hV28006), (IvM_f3 (I := I28006) (A := A28006) hV28006), (IvM_f4 (I := I28006) (A := A28006) hV28006), (IvM_f6 (I := I28006) (A := A28006) hV28006), (IvM_f8 (I := I28006) (A := A28006) hV28006), (IvM_f15 (I := I28006) (A := A28006) hV28006), (IvM_f16 (I := I28006) (A := A28006) hV28006), (IvM_f17 (I := I28006) (A := A28006) hV28006), (IvM_f18 (I := I28006) (A := A28006) hV28006), (IvM_f22 (I := I28006) (A := A28006) hV28006), (IvM_f23 (I := I28006) (A := A28006) hV28006), (IvM_f24 (I := I28006) (A := A28006) hV28006), (IvM_a11 (I := I28006) (A := A28006) hV28006), (IvM_a26 (I := I28006) (A := A28006) hV28006), (IvM_s8_0 (I := I28006) (A := A28006) hV28006), (IvM_s8_1 (I := I28006) (A := A28006) hV28006), (IvM_s10_0 (I := I28006) (A := A28006) hV28006), (IvM_s10_1 (I := I28006) (A := A28006) hV28006), (IvM_s17_0 (I := I28006) (A := A28006) hV28006), (IvM_s17_164 (I := I28006) (A := A28006) hV28006), (IvM_lv (I := I28006) (A := A28006) hV28006), (IvM_sd (I := I28006) (A := A28006) hV28006), (IvM_nq (I := I28006) (A := A28006) hV28006), (IvM_hr (I := I28006) (A := A28006) hV28006), (hh_off (IvM_hh (I := I28006) (A := A28006) hV28006) (by decide)), trivial⟩ (show L28006 = L28003 from hL28006) (by omega) (by omega) (by omega) (by omega) hF)
                    have b28023 := Int32.le_toInt (0 : Int32)
                    have b28024 := Int32.toInt_lt (0 : Int32)
                    have n28022a : 3 - (0 : Int32).toInt < (FU : Int) := by have := FU_eq; omega
                    have n28022b : 0 < FU := by have := FU_eq; omega
                    exact lp28015 FU 0 (upd I28003 22 0) A28003 L28003 Md.rf Md.rf ⟨(IvM_f1 (I := I28003) (A := A28003) hV28003), (IvM_f2 (I := I28003) (A := A28003) hV28003), (IvM_f3 (I := I28003) (A := A28003) hV28003), (IvM_f4 (I := I28003) (A := A28003) hV28003), (IvM_f6 (I := I28003) (A := A28003) hV28003), (IvM_f8 (I := I28003) (A := A28003) hV28003), (IvM_f15 (I := I28003) (A := A28003) hV28003), (IvM_f16 (I := I28003) (A := A28003) hV28003), (IvM_f17 (I := I28003) (A := A28003) hV28003), (IvM_f18 (I := I28003) (A := A28003) hV28003), (show 0 ≤ (0 : Int32).toInt ∧ (0 : Int32).toInt ≤ 40 from ⟨by decide, by decide⟩), (IvM_f23 (I := I28003) (A := A28003) hV28003), (IvM_f24 (I := I28003) (A := A28003) hV28003), (IvM_a11 (I := I28003) (A := A28003) hV28003), (IvM_a26 (I := I28003) (A := A28003) hV28003), (IvM_s8_0 (I := I28003) (A := A28003) hV28003), (IvM_s8_1 (I := I28003) (A := A28003) hV28003), (IvM_s10_0 (I := I28003) (A := A28003) hV28003), (IvM_s10_1 (I := I28003) (A := A28003) hV28003), (IvM_s17_0 (I := I28003) (A := A28003) hV28003), (IvM_s17_164 (I := I28003) (A := A28003) hV28003), (IvM_lv (I := I28003) (A := A28003) hV28003), (IvM_sd (I := I28003) (A := A28003) hV28003), (IvM_nq (I := I28003) (A := A28003) hV28003), (fun j hj => absurd (show (j : Int) < (0 : Int32).toInt from hj) (by have : (0 : Int32).toInt = 0 := rfl; omega)), (IvM_hh (I := I28003) (A := A28003) hV28003), trivial⟩ rfl (by omega) (by omega) n28022a n28022b hF
                  · skip
                    replace hF := FE.neg hF c27995
                    refine g_aload_n hk dX12_read_133 rfl ?_
                    refine gM_i9 (v := (I27872 9)) hk hin12 (List.mem_cons_of_mem _ (List.mem_append_left _ (List.mem_of_getElem? (i := 34) rfl))) dX12_read_134 rfl ?_
                    refine g_goto (tgt := 141) hk dX12_read_137 (by decide) ?_
                    refine pM_i10 hk hin12 (List.mem_cons_of_mem _ (List.mem_append_left _ (List.mem_of_getElem? (i := 22) rfl))) dX12_read_141 ?_
                    refine g_aload_n hk dX12_read_144 rfl ?_
                    refine g_aload_n hk dX12_read_145 rfl ?_
                    refine gM_i6 (v := (I27872 6)) hk hin12 (List.mem_cons_of_mem _ (List.mem_append_left _ (List.mem_of_getElem? (i := 7) rfl))) dX12_read_146 rfl ?_
                    refine g_if_le (tgt := 159) (a := (I27872 6).toInt) hk dX12_read_149 (by decide) rfl (fun _ => ?_) (fun z9 => absurd (show (I27872 6).toInt ≤ 0 from by omega) z9)
                    refine g_aload_n hk dX12_read_159 rfl ?_
                    refine gM_i8 (v := (I27872 8)) hk hin12 (List.mem_cons_of_mem _ (List.mem_append_left _ (List.mem_of_getElem? (i := 8) rfl))) dX12_read_160 rfl ?_
                    refine g_if_le (tgt := 173) (a := (I27872 8).toInt) hk dX12_read_163 (by decide) rfl (fun z9 => absurd z9 (show ¬ ((I27872 8).toInt ≤ 0) from by omega)) (fun _ => ?_)
                    refine g_aload_n hk dX12_read_166 rfl ?_
                    refine gM_i13 (v := (I27872 13)) hk hin12 (List.mem_cons_of_mem _ (List.mem_append_left _ (List.mem_of_getElem? (i := 35) rfl))) dX12_read_167 rfl ?_
                    refine g_goto (tgt := 174) hk dX12_read_170 (by decide) ?_
                    refine pM_i14 hk hin12 (List.mem_cons_of_mem _ (List.mem_append_left _ (List.mem_of_getElem? (i := 23) rfl))) dX12_read_174 ?_
                    refine g_aload_n hk dX12_read_177 rfl ?_
                    refine gM_i6 (v := (I27872 6)) hk hin12 (List.mem_cons_of_mem _ (List.mem_append_left _ (List.mem_of_getElem? (i := 7) rfl))) dX12_read_178 rfl ?_
                    refine g_if_le (tgt := 189) (a := (I27872 6).toInt) hk dX12_read_181 (by decide) rfl (fun _ => ?_) (fun z9 => absurd (show (I27872 6).toInt ≤ 0 from by omega) z9)
                    refine g_aload_n hk dX12_read_189 rfl ?_
                    refine gM_i8 (v := (I27872 8)) hk hin12 (List.mem_cons_of_mem _ (List.mem_append_left _ (List.mem_of_getElem? (i := 8) rfl))) dX12_read_190 rfl ?_
                    refine g_if_le (tgt := 201) (a := (I27872 8).toInt) hk dX12_read_193 (by decide) rfl (fun z9 => absurd z9 (show ¬ ((I27872 8).toInt ≤ 0) from by omega)) (fun _ => ?_)
                    refine g_aload_n hk dX12_read_196 rfl ?_
                    refine gM_i8 (v := (I27872 8)) hk hin12 (List.mem_cons_of_mem _ (List.mem_append_left _ (List.mem_of_getElem? (i := 8) rfl))) dX12_read_197 rfl ?_
                    exact g_iret hk hR rfl ⟨(upd (upd I27872 10 (I27872 9)) 14 (I27872 13)), A27872, L27872, (show Md [1, 2, 3, 4, 6, 7, 8, 9, 10, 11, 12, 13, 14, 15, 16, 17, 22] I (upd (upd I27872 10 (I27872 9)) 14 (I27872 13)) from (Md.up (Md.up (Md.tr (Md.up (Md.up (Md.up (Md.up (Md.up (Md.up (Md.tr (Md.up (Md.tr (Md.up Md.rf rfl) hI10852 rfl) rfl) hI27866 rfl) rfl) rfl) rfl) rfl) rfl) rfl) hI27872 rfl) rfl) rfl)), (show Md [1, 2, 3, 4, 8, 9, 10, 11, 12, 13, 14, 15, 16, 17, 18, 27] A A27872 from (Md.tr (Md.up3 (Md.up3 (Md.up3 (Md.up3 (Md.up3 (Md.up3 (Md.tr (Md.tr Md.rf hA10852 rfl) hA27866 rfl) rfl) rfl) rfl) rfl) rfl) rfl) hA27872 rfl)), ⟨(IvM_f1 (I := I27872) (A := A27872) hV27872), (IvM_f2 (I := I27872) (A := A27872) hV27872), (IvM_f3 (I := I27872) (A := A27872) hV27872), (IvM_f4 (I := I27872) (A := A27872) hV27872), (IvM_f6 (I := I27872) (A := A27872) hV27872), (IvM_f8 (I := I27872) (A := A27872) hV27872), (IvM_f15 (I := I27872) (A := A27872) hV27872), (IvM_f16 (I := I27872) (A := A27872) hV27872), (IvM_f17 (I := I27872) (A := A27872) hV27872), (IvM_f18 (I := I27872) (A := A27872) hV27872), (IvM_f22 (I := I27872) (A := A27872) hV27872), (IvM_f23 (I := I27872) (A := A27872) hV27872), (IvM_f24 (I := I27872) (A := A27872) hV27872), (IvM_a11 (I := I27872) (A := A27872) hV27872), (IvM_a26 (I := I27872) (A := A27872) hV27872), (IvM_s8_0 (I := I27872) (A := A27872) hV27872), (IvM_s8_1 (I := I27872) (A := A27872) hV27872), (IvM_s10_0 (I := I27872) (A := A27872) hV27872), (IvM_s10_1 (I := I27872) (A := A27872) hV27872), (IvM_s17_0 (I := I27872) (A := A27872) hV27872), (IvM_s17_164 (I := I27872) (A := A27872) hV27872), (IvM_lv (I := I27872) (A := A27872) hV27872), (IvM_sd (I := I27872) (A := A27872) hV27872), (IvM_nq (I := I27872) (A := A27872) hV27872), (IvM_hr (I := I27872) (A := A27872) hV27872), (IvM_hh (I := I27872) (A := A27872) hV27872), trivial⟩, (I27872 8), (by rw [show (upd (upd I27872 10 (I27872 9)) 14 (I27872 13)) 1 = 0 from ((hI27872 1 rfl).trans (hI27866 1 rfl))]; omega), (by omega), (by omega), hF, rfl, rfl⟩ dX12_read_200
          have k28025 : (0 : Int32).toInt = 0 := rfl
          have b28027 := Int32.le_toInt (0 : Int32)
          have b28028 := Int32.toInt_lt (0 : Int32)
          have n28026a : 10 * (401 - (0 : Int32).toInt) + (10 - (0 : Int32).toInt) < (FU : Int) := by have := FU_eq; omega
          have n28026b : 0 < FU := by have := FU_eq; omega
          have g28029 : (I27866 15).toInt = (I 15).toInt := by rw [show (I27866 15) = (I 15) from ((hI27866 15 rfl).trans (hI10852 15 rfl))]
          have g28030 : (I27866 16).toInt = (I 16).toInt := by rw [show (I27866 16) = (I 16) from ((hI27866 16 rfl).trans (hI10852 16 rfl))]
          have g28031 := IvM_s10_0 (I := I27866) (A := A27866) hV27866
          have g28032 := IvM_s10_1 (I := I27866) (A := A27866) hV27866
          exact lp27970 FU (upd (upd (upd (upd (upd (upd I27866 4 0) 6 0) 8 0) 11 (-2)) 16 1) 17 0) (up3 (up3 (up3 (up3 (up3 (up3 A27866 8 1 0) 10 1 0) 13 1 2) 14 1 0) 15 1 0) 16 1 8) L27866 Md.rf Md.rf ⟨(IvM_f1 (I := I27866) (A := A27866) hV27866), (IvM_f2 (I := I27866) (A := A27866) hV27866), (IvM_f3 (I := I27866) (A := A27866) hV27866), (show 0 ≤ (0 : Int32).toInt ∧ (0 : Int32).toInt ≤ 400 from ⟨by decide, by decide⟩), (show 0 ≤ (0 : Int32).toInt ∧ (0 : Int32).toInt ≤ 9 from ⟨by decide, by decide⟩), (show 0 ≤ (0 : Int32).toInt ∧ (0 : Int32).toInt ≤ 9 from ⟨by decide, by decide⟩), (IvM_f15 (I := I27866) (A := A27866) hV27866), (show 0 ≤ (1 : Int32).toInt ∧ (1 : Int32).toInt ≤ 1 from ⟨by decide, by decide⟩), (show 0 ≤ (0 : Int32).toInt ∧ (0 : Int32).toInt ≤ 5 from ⟨by decide, by decide⟩), (IvM_f18 (I := I27866) (A := A27866) hV27866), (IvM_f22 (I := I27866) (A := A27866) hV27866), (IvM_f23 (I := I27866) (A := A27866) hV27866), (IvM_f24 (I := I27866) (A := A27866) hV27866), (IvM_a11 (I := I27866) (A := A27866) hV27866), (IvM_a26 (I := I27866) (A := A27866) hV27866), (show 0 ≤ ((up3 (up3 (up3 (up3 (up3 (up3 A27866 8 1 0) 10 1 0) 13 1 2) 14 1 0) 15 1 0) 16 1 8) 8 0).toInt ∧ ((up3 (up3 (up3 (up3 (up3 (up3 A27866 8 1 0) 10 1 0) 13 1 2) 14 1 0) 15 1 0) 16 1 8) 8 0).toInt ≤ 160 from by rw [show (up3 (up3 (up3 (up3 (up3 (up3 A27866 8 1 0) 10 1 0) 13 1 2) 14 1 0) 15 1 0) 16 1 8) 8 0 = (A27866 8 0) from rfl]; exact (IvM_s8_0 (I := I27866) (A := A27866) hV27866)), (show 0 ≤ ((up3 (up3 (up3 (up3 (up3 (up3 A27866 8 1 0) 10 1 0) 13 1 2) 14 1 0) 15 1 0) 16 1 8) 8 1).toInt ∧ ((up3 (up3 (up3 (up3 (up3 (up3 A27866 8 1 0) 10 1 0) 13 1 2) 14 1 0) 15 1 0) 16 1 8) 8 1).toInt ≤ 160 from by rw [show (up3 (up3 (up3 (up3 (up3 (up3 A27866 8 1 0) 10 1 0) 13 1 2) 14 1 0) 15 1 0) 16 1 8) 8 1 = 0 from rfl]; exact ⟨by decide, by decide⟩), (show 0 ≤ ((up3 (up3 (up3 (up3 (up3 (up3 A27866 8 1 0) 10 1 0) 13 1 2) 14 1 0) 15 1 0) 16 1 8) 10 0).toInt ∧ ((up3 (up3 (up3 (up3 (up3 (up3 A27866 8 1 0) 10 1 0) 13 1 2) 14 1 0) 15 1 0) 16 1 8) 10 0).toInt ≤ 5 from by rw [show (up3 (up3 (up3 (up3 (up3 (up3 A27866 8 1 0) 10 1 0) 13 1 2) 14 1 0) 15 1 0) 16 1 8) 10 0 = (A27866 10 0) from rfl]; exact (IvM_s10_0 (I := I27866) (A := A27866) hV27866)), (show 0 ≤ ((up3 (up3 (up3 (up3 (up3 (up3 A27866 8 1 0) 10 1 0) 13 1 2) 14 1 0) 15 1 0) 16 1 8) 10 1).toInt ∧ ((up3 (up3 (up3 (up3 (up3 (up3 A27866 8 1 0) 10 1 0) 13 1 2) 14 1 0) 15 1 0) 16 1 8) 10 1).toInt ≤ 5 from by rw [show (up3 (up3 (up3 (up3 (up3 (up3 A27866 8 1 0) 10 1 0) 13 1 2) 14 1 0) 15 1 0) 16 1 8) 10 1 = 0 from rfl]; exact ⟨by decide, by decide⟩), (IvM_s17_0 (I := I27866) (A := A27866) hV27866), (IvM_s17_164 (I := I27866) (A := A27866) hV27866), ⟨fun e => by have e : (I27866 15).toInt = 0 := e; first | exact (IvM_lv (I := I27866) (A := A27866) hV27866).1 e | (exfalso; omega), fun e => by have e : (I27866 15).toInt = 1 := e; first | exact (IvM_lv (I := I27866) (A := A27866) hV27866).2 e | (exfalso; omega)⟩, (Or.inr (Or.inr ⟨fun e => absurd (show (1 : Int32).toInt = 0 from e) (by decide), fun e => ghf_0 (show 1 ≤ (8 : Int32).toInt from by decide) (show (0 : Int32).toInt = 0 from rfl)⟩)), ⟨fun e => absurd (show (1 : Int32).toInt = 0 from e) (by decide), fun e => (show (0 : Int32).toInt = (0 : Int32).toInt from rfl)⟩, (IvM_hr (I := I27866) (A := A27866) hV27866), (IvM_hh (I := I27866) (A := A27866) hV27866), trivial⟩ (by first | exact n28026a | (rw [show ((upd (upd (upd (upd (upd (upd I27866 4 0) 6 0) 8 0) 11 (-2)) 16 1) 17 0) 4) = (0 : Int32) from rfl, show ((upd (upd (upd (upd (upd (upd I27866 4 0) 6 0) 8 0) 11 (-2)) 16 1) 17 0) 6) = (0 : Int32) from rfl] <;> exact n28026a)) n28026b hF
        replace hF := FE.neg hF c27868
        by_cases c28033 : (I 15).toInt = 1
        · have ec28033 : (I 15) = 1 := Int32.toInt_inj.mp c28033
          replace hF := FE.pos hF c28033
          rw [ec28033]
          show GW κ 2 0 0 (wM r g (upd (upd (upd (upd I27866 4 0) 6 0) 8 0) 11 (-2)) A27866 L27866) 72 [(1, .int x10850), (0, .ref (r 0))] [.int 1, .int 1, .ref (r 0)]
          refine g_isub hk dX12_read_72 ?_
          refine g_norm (v := 0) (by decide) ?_
          refine pM_i16 hk hin12 (List.mem_cons_of_mem _ (List.mem_append_left _ (List.mem_of_getElem? (i := 11) rfl))) dX12_read_73 ?_
          refine g_aload_n hk dX12_read_76 rfl ?_
          refine g_iconst (v := 0) hk dX12_read_77 (by decide) ?_
          refine pM_i17 hk hin12 (List.mem_cons_of_mem _ (List.mem_append_left _ (List.mem_of_getElem? (i := 12) rfl))) dX12_read_78 ?_
          refine g_aload_n hk dX12_read_81 rfl ?_
          refine g_aload_n hk dX12_read_82 rfl ?_
          refine gM_i16 (v := 0) hk hin12 (List.mem_cons_of_mem _ (List.mem_append_left _ (List.mem_of_getElem? (i := 11) rfl))) dX12_read_83 rfl ?_
          have k28034 : (0 : Int32).toInt = 0 := rfl
          refine g_callV (n := 1) hk (j124_X12_plain l D zt r g (upd (upd (upd (upd (upd (upd I27866 4 0) 6 0) 8 0) 11 (-2)) 16 0) 17 0) A27866 L27866 0  (by decide) (by decide)) (SP.same _) (fun _ h => h) (gi_V (List.mem_cons_of_mem _ (List.mem_append_left _ (List.mem_of_getElem? (i := 13) rfl))) (List.mem_cons_of_mem _ (List.mem_append_left _ (List.mem_of_getElem? (i := 14) rfl))) (List.mem_cons_of_mem _ (List.mem_append_left _ (List.mem_of_getElem? (i := 15) rfl))) (List.mem_cons_of_mem _ (List.mem_append_left _ (List.mem_of_getElem? (i := 5) rfl))) (gi_sub (fun w h => (List.mem_cons_of_mem _ (List.mem_append_right _ (List.mem_append_right _ (List.mem_append_right _ (List.mem_append_left _ h)))))) zg_j124_X12_plain)) rfl rfl rfl (by decide +kernel) ⟨Nat.le_of_ble_eq_true rfl, Nat.le_of_ble_eq_true rfl⟩ 0 rfl rfl rfl rfl (Nat.le_of_ble_eq_true rfl) ⟨Nat.le_of_ble_eq_true rfl, Nat.le_of_ble_eq_true rfl⟩ dX12_read_86 (fun v ty' w' hp hk' => ?_)
          obtain ⟨rfl, rfl⟩ := hp
          show GW κ 2 0 0 (wM r g (upd (upd (upd (upd (upd (upd I27866 4 0) 6 0) 8 0) 11 (-2)) 16 0) 17 0) (up3 (up3 (up3 (up3 (up3 (up3 A27866 8 0 0) 10 0 0) 13 0 2) 14 0 0) 15 0 0) 16 0 8) L27866) 89 [(1, .int x10850), (0, .ref (r 0))] []
          have lp28133 : ∀ (n28134 : Nat) (I28037 : Nat → Int32) (A28037 : Nat → Nat → Int32) (L28037 : Nat → Nat → Int64), (Md [4, 6, 7, 8, 9, 11, 12, 13, 17] (upd (upd (upd (upd (upd (upd I27866 4 0) 6 0) 8 0) 11 (-2)) 16 0) 17 0) I28037) → (Md [8, 9, 10, 11, 12, 13, 14, 15, 16] (up3 (up3 (up3 (up3 (up3 (up3 A27866 8 0 0) 10 0 0) 13 0 2) 14 0 0) 15 0 0) 16 0 8) A28037) → (IvM I28037 A28037) → (10 * (401 - (I28037 4).toInt) + (10 - (I28037 6).toInt) < (n28134 : Int)) → (0 < n28134) → (FE (fM12_read I A L) (itr_IAL dfM (bM12_read_89x) n28134 I28037 A28037 L28037)) → GW κ 2 0 0 (wM r g I28037 A28037 L28037) 89 [(1, .int x10850), (0, .ref (r 0))] [] := by
            intro n28134
            induction n28134 with
            | zero =>
              intro I28037 A28037 L28037 hI28037 hA28037 hV28037 m28135 m28135z hF
              exact absurd m28135z (Nat.lt_irrefl 0)
            | succ n28134 ih28137 =>
              intro I28037 A28037 L28037 hI28037 hA28037 hV28037 m28135 m28135z hF
              have f28138 := IvM_f4 hV28037
              have f28139 := IvM_f6 hV28037
              replace hF := FE.itr_IAL hF
              refine g_aload_n hk dX12_read_89 rfl ?_
              refine gM_i6 (v := (I28037 6)) hk hin12 (List.mem_cons_of_mem _ (List.mem_append_left _ (List.mem_of_getElem? (i := 7) rfl))) dX12_read_90 rfl ?_
              refine g_if_ne (tgt := 111) (a := (I28037 6).toInt) hk dX12_read_93 (by decide) rfl (fun c28140 => ?_) (fun c28140 => ?_)
              · skip
                replace hF := FE.pos hF c28140
                refine g_aload_n hk dX12_read_111 rfl ?_
                refine g_aload_n hk dX12_read_112 rfl ?_
                refine gM_i6 (v := (I28037 6)) hk hin12 (List.mem_cons_of_mem _ (List.mem_append_left _ (List.mem_of_getElem? (i := 7) rfl))) dX12_read_113 rfl ?_
                refine g_if_le (tgt := 126) (a := (I28037 6).toInt) hk dX12_read_116 (by decide) rfl (fun z9 => absurd z9 (show ¬ ((I28037 6).toInt ≤ 0) from by omega)) (fun _ => ?_)
                refine g_aload_n hk dX12_read_119 rfl ?_
                refine gM_i7 (v := (I28037 7)) hk hin12 (List.mem_cons_of_mem _ (List.mem_append_left _ (List.mem_of_getElem? (i := 32) rfl))) dX12_read_120 rfl ?_
                refine g_goto (tgt := 141) hk dX12_read_123 (by decide) ?_
                refine pM_i10 hk hin12 (List.mem_cons_of_mem _ (List.mem_append_left _ (List.mem_of_getElem? (i := 22) rfl))) dX12_read_141 ?_
                refine g_aload_n hk dX12_read_144 rfl ?_
                refine g_aload_n hk dX12_read_145 rfl ?_
                refine gM_i6 (v := (I28037 6)) hk hin12 (List.mem_cons_of_mem _ (List.mem_append_left _ (List.mem_of_getElem? (i := 7) rfl))) dX12_read_146 rfl ?_
                refine g_if_le (tgt := 159) (a := (I28037 6).toInt) hk dX12_read_149 (by decide) rfl (fun z9 => absurd z9 (show ¬ ((I28037 6).toInt ≤ 0) from by omega)) (fun _ => ?_)
                refine g_aload_n hk dX12_read_152 rfl ?_
                refine gM_i12 (v := (I28037 12)) hk hin12 (List.mem_cons_of_mem _ (List.mem_append_left _ (List.mem_of_getElem? (i := 33) rfl))) dX12_read_153 rfl ?_
                refine g_goto (tgt := 174) hk dX12_read_156 (by decide) ?_
                refine pM_i14 hk hin12 (List.mem_cons_of_mem _ (List.mem_append_left _ (List.mem_of_getElem? (i := 23) rfl))) dX12_read_174 ?_
                refine g_aload_n hk dX12_read_177 rfl ?_
                refine gM_i6 (v := (I28037 6)) hk hin12 (List.mem_cons_of_mem _ (List.mem_append_left _ (List.mem_of_getElem? (i := 7) rfl))) dX12_read_178 rfl ?_
                refine g_if_le (tgt := 189) (a := (I28037 6).toInt) hk dX12_read_181 (by decide) rfl (fun z9 => absurd z9 (show ¬ ((I28037 6).toInt ≤ 0) from by omega)) (fun _ => ?_)
                refine g_aload_n hk dX12_read_184 rfl ?_
                refine gM_i6 (v := (I28037 6)) hk hin12 (List.mem_cons_of_mem _ (List.mem_append_left _ (List.mem_of_getElem? (i := 7) rfl))) dX12_read_185 rfl ?_
                exact g_iret hk hR rfl ⟨(upd (upd I28037 10 (I28037 7)) 14 (I28037 12)), A28037, L28037, (show Md [1, 2, 3, 4, 6, 7, 8, 9, 10, 11, 12, 13, 14, 15, 16, 17, 22] I (upd (upd I28037 10 (I28037 7)) 14 (I28037 12)) from (Md.up (Md.up (Md.tr (Md.up (Md.up (Md.up (Md.up (Md.up (Md.up (Md.tr (Md.up (Md.tr (Md.up Md.rf rfl) hI10852 rfl) rfl) hI27866 rfl) rfl) rfl) rfl) rfl) rfl) rfl) hI28037 rfl) rfl) rfl)), (show Md [1, 2, 3, 4, 8, 9, 10, 11, 12, 13, 14, 15, 16, 17, 18, 27] A A28037 from (Md.tr (Md.up3 (Md.up3 (Md.up3 (Md.up3 (Md.up3 (Md.up3 (Md.tr (Md.tr Md.rf hA10852 rfl) hA27866 rfl) rfl) rfl) rfl) rfl) rfl) rfl) hA28037 rfl)), ⟨(IvM_f1 (I := I28037) (A := A28037) hV28037), (IvM_f2 (I := I28037) (A := A28037) hV28037), (IvM_f3 (I := I28037) (A := A28037) hV28037), (IvM_f4 (I := I28037) (A := A28037) hV28037), (IvM_f6 (I := I28037) (A := A28037) hV28037), (IvM_f8 (I := I28037) (A := A28037) hV28037), (IvM_f15 (I := I28037) (A := A28037) hV28037), (IvM_f16 (I := I28037) (A := A28037) hV28037), (IvM_f17 (I := I28037) (A := A28037) hV28037), (IvM_f18 (I := I28037) (A := A28037) hV28037), (IvM_f22 (I := I28037) (A := A28037) hV28037), (IvM_f23 (I := I28037) (A := A28037) hV28037), (IvM_f24 (I := I28037) (A := A28037) hV28037), (IvM_a11 (I := I28037) (A := A28037) hV28037), (IvM_a26 (I := I28037) (A := A28037) hV28037), (IvM_s8_0 (I := I28037) (A := A28037) hV28037), (IvM_s8_1 (I := I28037) (A := A28037) hV28037), (IvM_s10_0 (I := I28037) (A := A28037) hV28037), (IvM_s10_1 (I := I28037) (A := A28037) hV28037), (IvM_s17_0 (I := I28037) (A := A28037) hV28037), (IvM_s17_164 (I := I28037) (A := A28037) hV28037), (IvM_lv (I := I28037) (A := A28037) hV28037), (IvM_sd (I := I28037) (A := A28037) hV28037), (IvM_nq (I := I28037) (A := A28037) hV28037), (IvM_hr (I := I28037) (A := A28037) hV28037), (IvM_hh (I := I28037) (A := A28037) hV28037), trivial⟩, (I28037 6), (by rw [show (upd (upd I28037 10 (I28037 7)) 14 (I28037 12)) 1 = 0 from ((hI28037 1 rfl).trans (hI27866 1 rfl))]; omega), (by omega), (by omega), hF, rfl, rfl⟩ dX12_read_188
              · skip
                replace hF := FE.neg hF c28140
                refine g_aload_n hk dX12_read_96 rfl ?_
                refine g_iconst (v := 0) hk dX12_read_97 (by decide) ?_
                refine g_callV (n := 1) hk (j125_X12_is l D zt r g I28037 A28037 L28037 0 hV28037) (SP.same _) (fun _ h => h) (gi_V (List.mem_cons_of_mem _ (List.mem_append_left _ (List.mem_of_getElem? (i := 16) rfl))) (List.mem_cons_of_mem _ (List.mem_append_left _ (List.mem_of_getElem? (i := 17) rfl))) (List.mem_cons_of_mem _ (List.mem_append_left _ (List.mem_of_getElem? (i := 18) rfl))) (List.mem_cons_of_mem _ (List.mem_append_left _ (List.mem_of_getElem? (i := 5) rfl))) (gi_sub (fun w h => (List.mem_cons_of_mem _ (List.mem_append_right _ (List.mem_append_right _ (List.mem_append_right _ (List.mem_append_right _ (List.mem_append_left _ h))))))) zg_j125_X12_is)) rfl rfl rfl (by decide +kernel) ⟨Nat.le_of_ble_eq_true rfl, Nat.le_of_ble_eq_true rfl⟩ 0 rfl rfl rfl rfl (Nat.le_of_ble_eq_true rfl) ⟨Nat.le_of_ble_eq_true rfl, Nat.le_of_ble_eq_true rfl⟩ dX12_read_98 (fun v ty' w' hp hk' => ?_)
                rcases hp with ⟨c28141, hC, rfl, rfl⟩ | ⟨c28143, hC, rfl, rfl⟩
                · skip
                  replace hF := FE.pos hF hC
                  rw [show (A28037 2 (I28037 4).toNatClampNeg) = (A27866 2 (I28037 4).toNatClampNeg) from (congrFun (hA28037 2 rfl) _)] at c28141
                  show GW κ 2 0 0 (wM r g I28037 A28037 L28037) 101 [(1, .int x10850), (0, .ref (r 0))] [.int 0]
                  refine g_if_ne (tgt := 111) (a := 0) hk dX12_read_101 (by decide) rfl (fun z9 => absurd z9 (show ¬ ((0 : Int) ≠ (0 : Int)) from by decide)) (fun _ => ?_)
                  refine g_aload_n hk dX12_read_104 rfl ?_
                  refine g_callV (n := 0) hk (j126_X12_tellOne l D zt r g I28037 A28037 L28037  hV28037 (by first | (rw [show (I28037 15) = (I 15) from ((hI28037 15 rfl).trans ((hI27866 15 rfl).trans (hI10852 15 rfl))), show (I28037 16) = (0 : Int32) from (hI28037 16 rfl)] <;> omega) | omega)) (SP.same _) (fun _ h => h) (gi_V (List.mem_cons_of_mem _ (List.mem_append_left _ (List.mem_of_getElem? (i := 19) rfl))) (List.mem_cons_of_mem _ (List.mem_append_left _ (List.mem_of_getElem? (i := 20) rfl))) (List.mem_cons_of_mem _ (List.mem_append_left _ (List.mem_of_getElem? (i := 21) rfl))) (List.mem_cons_of_mem _ (List.mem_append_left _ (List.mem_of_getElem? (i := 5) rfl))) (gi_sub (fun w h => (List.mem_cons_of_mem _ (List.mem_append_right _ (List.mem_append_right _ (List.mem_append_right _ (List.mem_append_right _ (List.mem_append_right _ (List.mem_append_left _ h)))))))) zg_j126_X12_tellOne)) rfl rfl rfl (by decide +kernel) ⟨Nat.le_of_ble_eq_true rfl, Nat.le_of_ble_eq_true rfl⟩ 0 rfl rfl rfl rfl (Nat.le_of_ble_eq_true rfl) ⟨Nat.le_of_ble_eq_true rfl, Nat.le_of_ble_eq_true rfl⟩ dX12_read_105 (fun v ty' w' hp hk' => ?_)
                  obtain ⟨I28146, A28146, L28146, hI28146, hA28146, hV28146, r28147, r28148, r28149, r28150, hC, rfl, rfl⟩ := hp
                  replace hF := FE.bdM hF hC
                  have f28151 := IvM_f4 hV28146
                  have f28152 := IvM_f6 hV28146
                  have f28153 := IvM_f8 hV28037
                  have f28154 := IvM_f8 hV28146
                  show GW κ 2 0 0 (wM r g I28146 A28146 L28146) 108 [(1, .int x10850), (0, .ref (r 0))] []
                  refine g_goto (tgt := 89) hk dX12_read_108 (by decide) ?_
                  exact g_lv (List.forall_mem_cons.mpr ⟨List.mem_of_getElem? (i := 0) rfl, (List.forall_mem_cons.mpr ⟨List.mem_of_getElem? (i := 1) rfl, (fun _ h => absurd h List.not_mem_nil)⟩)⟩) (ih28137 I28146 A28146 L28146 (show Md [4, 6, 7, 8, 9, 11, 12, 13, 17] (upd (upd (upd (upd (upd (upd I27866 4 0) 6 0) 8 0) 11 (-2)) 16 0) 17 0) I28146 from Md.tr hI28037 (show Md [4, 6, 7, 8, 9, 11, 12, 13, 17] I28037 I28146 from (Md.tr Md.rf hI28146 rfl)) rfl) (show Md [8, 9, 10, 11, 12, 13, 14, 15, 16] (up3 (up3 (up3 (up3 (up3 (up3 A27866 8 0 0) 10 0 0) 13 0 2) 14 0 0) 15 0 0) 16 0 8) A28146 from Md.tr hA28037 (show Md [8, 9, 10, 11, 12, 13, 14, 15, 16] A28037 A28146 from (Md.tr Md.rf hA28146 rfl)) rfl) hV28146 (by omega) (by omega) hF)
                · skip
                  replace hF := FE.neg hF (fe_ne hC (by decide))
                  rw [show (A28037 2 (I28037 4).toNatClampNeg) = (A27866 2 (I28037 4).toNatClampNeg) from (congrFun (hA28037 2 rfl) _)] at c28143
                  show GW κ 2 0 0 (wM r g I28037 A28037 L28037) 101 [(1, .int x10850), (0, .ref (r 0))] [.int 1]
                  refine g_if_ne (tgt := 111) (a := 1) hk dX12_read_101 (by decide) rfl (fun _ => ?_) (fun z9 => absurd (show (1 : Int) ≠ (0 : Int) from by decide) z9)
                  refine g_aload_n hk dX12_read_111 rfl ?_
                  refine g_aload_n hk dX12_read_112 rfl ?_
                  refine gM_i6 (v := (I28037 6)) hk hin12 (List.mem_cons_of_mem _ (List.mem_append_left _ (List.mem_of_getElem? (i := 7) rfl))) dX12_read_113 rfl ?_
                  refine g_if_le (tgt := 126) (a := (I28037 6).toInt) hk dX12_read_116 (by decide) rfl (fun _ => ?_) (fun z9 => absurd (show (I28037 6).toInt ≤ 0 from by omega) z9)
                  refine g_aload_n hk dX12_read_126 rfl ?_
                  refine gM_i8 (v := (I28037 8)) hk hin12 (List.mem_cons_of_mem _ (List.mem_append_left _ (List.mem_of_getElem? (i := 8) rfl))) dX12_read_127 rfl ?_
                  have f28155 := IvM_f8 hV28037
                  refine g_if_le (tgt := 140) (a := (I28037 8).toInt) hk dX12_read_130 (by decide) rfl (fun c28156 => ?_) (fun c28156 => ?_)
                  · skip
                    replace hF := FE.pos hF c28156
                    refine g_iconst (v := (-1)) hk dX12_read_140 (by decide) ?_
                    refine pM_i10 hk hin12 (List.mem_cons_of_mem _ (List.mem_append_left _ (List.mem_of_getElem? (i := 22) rfl))) dX12_read_141 ?_
                    refine g_aload_n hk dX12_read_144 rfl ?_
                    refine g_aload_n hk dX12_read_145 rfl ?_
                    refine gM_i6 (v := (I28037 6)) hk hin12 (List.mem_cons_of_mem _ (List.mem_append_left _ (List.mem_of_getElem? (i := 7) rfl))) dX12_read_146 rfl ?_
                    refine g_if_le (tgt := 159) (a := (I28037 6).toInt) hk dX12_read_149 (by decide) rfl (fun _ => ?_) (fun z9 => absurd (show (I28037 6).toInt ≤ 0 from by omega) z9)
                    refine g_aload_n hk dX12_read_159 rfl ?_
                    refine gM_i8 (v := (I28037 8)) hk hin12 (List.mem_cons_of_mem _ (List.mem_append_left _ (List.mem_of_getElem? (i := 8) rfl))) dX12_read_160 rfl ?_
                    refine g_if_le (tgt := 173) (a := (I28037 8).toInt) hk dX12_read_163 (by decide) rfl (fun _ => ?_) (fun z9 => absurd (show (I28037 8).toInt ≤ 0 from by omega) z9)
                    refine g_iconst (v := (-1)) hk dX12_read_173 (by decide) ?_
                    refine pM_i14 hk hin12 (List.mem_cons_of_mem _ (List.mem_append_left _ (List.mem_of_getElem? (i := 23) rfl))) dX12_read_174 ?_
                    refine g_aload_n hk dX12_read_177 rfl ?_
                    refine gM_i6 (v := (I28037 6)) hk hin12 (List.mem_cons_of_mem _ (List.mem_append_left _ (List.mem_of_getElem? (i := 7) rfl))) dX12_read_178 rfl ?_
                    refine g_if_le (tgt := 189) (a := (I28037 6).toInt) hk dX12_read_181 (by decide) rfl (fun _ => ?_) (fun z9 => absurd (show (I28037 6).toInt ≤ 0 from by omega) z9)
                    refine g_aload_n hk dX12_read_189 rfl ?_
                    refine gM_i8 (v := (I28037 8)) hk hin12 (List.mem_cons_of_mem _ (List.mem_append_left _ (List.mem_of_getElem? (i := 8) rfl))) dX12_read_190 rfl ?_
                    refine g_if_le (tgt := 201) (a := (I28037 8).toInt) hk dX12_read_193 (by decide) rfl (fun _ => ?_) (fun z9 => absurd (show (I28037 8).toInt ≤ 0 from by omega) z9)
                    refine g_aload_n hk dX12_read_201 rfl ?_
                    refine g_aload_n hk dX12_read_202 rfl ?_
                    refine gM_i16 (v := 0) hk hin12 (List.mem_cons_of_mem _ (List.mem_append_left _ (List.mem_of_getElem? (i := 11) rfl))) dX12_read_203 (hI28037 16 rfl) ?_
                    refine pM_i15 hk hin12 (List.mem_cons_of_mem _ (List.mem_append_left _ (List.mem_of_getElem? (i := 10) rfl))) dX12_read_206 ?_
                    refine g_aload_n hk dX12_read_209 rfl ?_
                    have g28157 : (I28037 16).toInt = (0 : Int32).toInt := by rw [show (I28037 16) = 0 from (hI28037 16 rfl)]
                    refine g_callV (n := 0) hk (j138_X12_begins l D zt r g (upd (upd (upd I28037 10 (-1)) 14 (-1)) 15 0) A28037 L28037  ⟨(IvM_f1 (I := I28037) (A := A28037) hV28037), (IvM_f2 (I := I28037) (A := A28037) hV28037), (IvM_f3 (I := I28037) (A := A28037) hV28037), (IvM_f4 (I := I28037) (A := A28037) hV28037), (IvM_f6 (I := I28037) (A := A28037) hV28037), (IvM_f8 (I := I28037) (A := A28037) hV28037), (show 0 ≤ (0 : Int32).toInt ∧ (0 : Int32).toInt ≤ 1 from ⟨by decide, by decide⟩), (IvM_f16 (I := I28037) (A := A28037) hV28037), (IvM_f17 (I := I28037) (A := A28037) hV28037), (IvM_f18 (I := I28037) (A := A28037) hV28037), (IvM_f22 (I := I28037) (A := A28037) hV28037), (IvM_f23 (I := I28037) (A := A28037) hV28037), (IvM_f24 (I := I28037) (A := A28037) hV28037), (IvM_a11 (I := I28037) (A := A28037) hV28037), (IvM_a26 (I := I28037) (A := A28037) hV28037), (IvM_s8_0 (I := I28037) (A := A28037) hV28037), (IvM_s8_1 (I := I28037) (A := A28037) hV28037), (IvM_s10_0 (I := I28037) (A := A28037) hV28037), (IvM_s10_1 (I := I28037) (A := A28037) hV28037), (IvM_s17_0 (I := I28037) (A := A28037) hV28037), (IvM_s17_164 (I := I28037) (A := A28037) hV28037), ⟨fun e => (by rcases (IvM_sd (I := I28037) (A := A28037) hV28037) with h9 | h9 | h9; exact absurd h9 (by omega); exact absurd h9 (by omega); exact h9.1 (by omega)), fun e => absurd (show (0 : Int32).toInt = 1 from e) (by decide)⟩, (IvM_sd (I := I28037) (A := A28037) hV28037), (IvM_nq (I := I28037) (A := A28037) hV28037), (IvM_hr (I := I28037) (A := A28037) hV28037), (IvM_hh (I := I28037) (A := A28037) hV28037), trivial⟩) (SP.same _) (fun _ h => h) (gi_V (List.mem_cons_of_mem _ (List.mem_append_left _ (List.mem_of_getElem? (i := 24) rfl))) (List.mem_cons_of_mem _ (List.mem_append_left _ (List.mem_of_getElem? (i := 25) rfl))) (List.mem_cons_of_mem _ (List.mem_append_left _ (List.mem_of_getElem? (i := 26) rfl))) (List.mem_cons_of_mem _ (List.mem_append_left _ (List.mem_of_getElem? (i := 5) rfl))) (gi_sub (fun w h => (List.mem_cons_of_mem _ (List.mem_append_right _ (List.mem_append_right _ (List.mem_append_right _ (List.mem_append_right _ (List.mem_append_right _ (List.mem_append_right _ (List.mem_append_left _ h))))))))) zg_j138_X12_begins)) rfl rfl rfl (by decide +kernel) ⟨Nat.le_of_ble_eq_true rfl, Nat.le_of_ble_eq_true rfl⟩ 0 rfl rfl rfl rfl (Nat.le_of_ble_eq_true rfl) ⟨Nat.le_of_ble_eq_true rfl, Nat.le_of_ble_eq_true rfl⟩ dX12_read_210 (fun v ty' w' hp hk' => ?_)
                    obtain ⟨I28159, A28159, L28159, hI28159, hA28159, hV28159, r28160, r28161, r28162, hL28159, hC, rfl, rfl⟩ := hp
                    replace hF := FE.bdM hF hC
                    show GW κ 2 0 0 (wM r g I28159 A28159 L28159) 213 [(1, .int x10850), (0, .ref (r 0))] []
                    refine g_aload_n hk dX12_read_213 rfl ?_
                    refine g_callV (n := 0) hk (j139_X12_keepsRow l D zt r g I28159 A28159 L28159  hV28159 (by omega) (by omega) (by omega)) (SP.same _) (fun _ h => h) (gi_V (List.mem_cons_of_mem _ (List.mem_append_left _ (List.mem_of_getElem? (i := 27) rfl))) (List.mem_cons_of_mem _ (List.mem_append_left _ (List.mem_of_getElem? (i := 28) rfl))) (List.mem_cons_of_mem _ (List.mem_append_left _ (List.mem_of_getElem? (i := 29) rfl))) (List.mem_cons_of_mem _ (List.mem_append_left _ (List.mem_of_getElem? (i := 5) rfl))) (gi_sub (fun w h => (List.mem_cons_of_mem _ (List.mem_append_right _ (List.mem_append_right _ (List.mem_append_right _ (List.mem_append_right _ (List.mem_append_right _ (List.mem_append_right _ (List.mem_append_right _ (List.mem_append_left _ h)))))))))) zg_j139_X12_keepsRow)) rfl rfl rfl (by decide +kernel) ⟨Nat.le_of_ble_eq_true rfl, Nat.le_of_ble_eq_true rfl⟩ 0 rfl rfl rfl rfl (Nat.le_of_ble_eq_true rfl) ⟨Nat.le_of_ble_eq_true rfl, Nat.le_of_ble_eq_true rfl⟩ dX12_read_214 (fun v ty' w' hp hk' => ?_)
                    obtain ⟨I28164, A28164, L28164, hI28164, hA28164, hV28164, hL28164, hC, rfl, rfl⟩ := hp
                    replace hF := FE.bdM hF hC
                    show GW κ 2 0 0 (wM r g I28164 A28164 L28164) 217 [(1, .int x10850), (0, .ref (r 0))] []
                    refine g_aload_n hk dX12_read_217 rfl ?_
                    refine g_iconst (v := 0) hk dX12_read_218 (by decide) ?_
                    refine pM_i22 hk hin12 (List.mem_cons_of_mem _ (List.mem_append_left _ (List.mem_of_getElem? (i := 30) rfl))) dX12_read_219 ?_
                    refine g_iconst (v := 0) hk dX12_read_222 (by decide) ?_
                    refine g_istore_n (lv' := [(1, .int 0), (0, .ref (r 0))]) hk dX12_read_223 (by decide) rfl ?_
                    have lp28176 : ∀ (n28177 : Nat) (x28165 : Int32) (I28167 : Nat → Int32) (A28167 : Nat → Nat → Int32) (L28167 : Nat → Nat → Int64), (Md [] (upd I28164 22 0) I28167) → (Md [27] A28164 A28167) → (IvM I28167 A28167) → (L28167 = L28164) → (0 ≤ x28165.toInt) → (x28165.toInt ≤ 3) → (3 - x28165.toInt < (n28177 : Int)) → (0 < n28177) → (FE (fM12_read I A L) (itr_iIAL dfM (bM12_read_224x) n28177 x28165 I28167 A28167 L28167)) → GW κ 2 0 0 (wM r g I28167 A28167 L28167) 224 [(1, .int x28165), (0, .ref (r 0))] [] := by
                      intro n28177
                      induction n28177 with
                      | zero =>
                        intro x28165 I28167 A28167 L28167 hI28167 hA28167 hV28167 hL28167 h28174 h28175 m28178 m28178z hF
                        exact absurd m28178z (Nat.lt_irrefl 0)
                      | succ n28177 ih28180 =>
                        intro x28165 I28167 A28167 L28167 hI28167 hA28167 hV28167 hL28167 h28174 h28175 m28178 m28178z hF
                        replace hF := FE.itr_iIAL hF
                        refine g_iload_n hk dX12_read_224 rfl ?_
                        refine g_iconst (v := 3) hk dX12_read_225 (by decide) ?_
                        refine g_icmp_ge (tgt := 242) (a := x28165.toInt) (b := 3) hk dX12_read_226 (by decide) rfl rfl (fun c28181 => ?_) (fun c28181 => ?_)
                        · skip
                          replace hF := FE.pos hF c28181
                          refine g_iconst (v := 0) hk dX12_read_242 (by decide) ?_
                          exact g_iret hk hR rfl ⟨I28167, A28167, L28167, (show Md [1, 2, 3, 4, 6, 7, 8, 9, 10, 11, 12, 13, 14, 15, 16, 17, 22] I I28167 from (Md.tr (Md.up (Md.tr (Md.tr (Md.up (Md.up (Md.up (Md.tr (Md.up (Md.up (Md.up (Md.up (Md.up (Md.up (Md.tr (Md.up (Md.tr (Md.up Md.rf rfl) hI10852 rfl) rfl) hI27866 rfl) rfl) rfl) rfl) rfl) rfl) rfl) hI28037 rfl) rfl) rfl) rfl) hI28159 rfl) hI28164 rfl) rfl) hI28167 rfl)), (show Md [1, 2, 3, 4, 8, 9, 10, 11, 12, 13, 14, 15, 16, 17, 18, 27] A A28167 from (Md.tr (Md.tr (Md.tr (Md.tr (Md.up3 (Md.up3 (Md.up3 (Md.up3 (Md.up3 (Md.up3 (Md.tr (Md.tr Md.rf hA10852 rfl) hA27866 rfl) rfl) rfl) rfl) rfl) rfl) rfl) hA28037 rfl) hA28159 rfl) hA28164 rfl) hA28167 rfl)), hV28167, 0, (by rw [show I28167 1 = 0 from ((hI28167 1 rfl).trans ((hI28164 1 rfl).trans ((hI28159 1 rfl).trans ((hI28037 1 rfl).trans (hI27866 1 rfl)))))]; omega), (by decide), (by decide), hF, rfl, rfl⟩ dX12_read_243
                        · skip
                          replace hF := FE.neg hF c28181
                          refine g_aload_n hk dX12_read_229 rfl ?_
                          refine gM_r0_53 hk hin12 (List.mem_cons_of_mem _ (List.mem_append_left _ (List.mem_of_getElem? (i := 31) rfl))) dX12_read_230 ?_
                          refine g_iload_n hk dX12_read_233 rfl ?_
                          refine g_iconst (v := 0) hk dX12_read_234 (by decide) ?_
                          refine sM_27 (y := (vp_nar .boolean 0)) (j := x28165.toNatClampNeg) hk (vp_in_iff.mpr ⟨by omega, by omega⟩) rfl rfl dX12_read_235 ?_
                          obtain ⟨y28182, ey28182⟩ : ∃ y : Int32, y = x28165 + Int32.ofInt 1 := ⟨_, rfl⟩
                          replace hF := FE.lt hF ey28182
                          have hy28182 : y28182.toInt = x28165.toInt + 1 := i32_add ey28182 rfl (by decide) (by omega) (by omega)
                          refine g_iinc (v := y28182) (lv' := [(1, .int y28182), (0, .ref (r 0))]) hk 0 dX12_read_236 rfl ey28182.symm (by decide) rfl ?_
                          refine g_goto (tgt := 224) hk dX12_read_239 (by decide) ?_
                          exact g_lv (List.forall_mem_cons.mpr ⟨List.mem_of_getElem? (i := 0) rfl, (List.forall_mem_cons.mpr ⟨List.mem_of_getElem? (i := 1) rfl, (fun _ h => absurd h List.not_mem_nil)⟩)⟩) (ih28180 y28182 I28167 (up3 A28167 27 (x28165.toNatClampNeg) (vp_nar .boolean 0)) L28167 (show Md [] (upd I28164 22 0) I28167 from Md.tr hI28167 (show Md [] I28167 I28167 from Md.rf) rfl) (show Md [27] A28164 (up3 A28167 27 (x28165.toNatClampNeg) (vp_nar .boolean 0)) from Md.tr hA28167 (show Md [27] A28167 (up3 A28167 27 (x28165.toNatClampNeg) (vp_nar .boolean 0)) from (Md.up3 Md.rf rfl)) rfl) ⟨(IvM_f1 (I := I28167) (A := A28167) hV28167), (IvM_f2 (I := I28167) (A := A28167) hV28167), (IvM_f3 (I := I28167) (A := A28167) hV28167), (IvM_f4 (I := I28167) (A := A28167) hV28167), (IvM_f6 (I := I28167) (A := A28167) hV28167), (IvM_f8 (I := I28167) (A := A28167) hV28167), (IvM_f15 (I := I28167) (A := A28167) hV28167), (IvM_f16 (I := I28167) (A := A28167) hV28167), (IvM_f17 (I := I28167) (A := A28167) hV28167), (IvM_f18 (I := I28167) (A := A28167) hV28167), (IvM_f22 (I := I28167) (A := A28167) hV28167), (IvM_f23 (I := I28167) (A := A28167) hV28167), (IvM_f24 (I := I28167) (A := A28167) hV28167), (IvM_a11 (I := I28167) (A := A28167) hV28167), (IvM_a26 (I := I28167) (A := A28167) hV28167), (IvM_s8_0 (I := I28167) (A := A28167) hV28167), (IvM_s8_1 (I := I28167) (A := A28167) hV28167), (IvM_s10_0 (I := I28167) (A := A28167) hV28167), (IvM_s10_1 (I := I28167) (A := A28167) hV28167), (IvM_s17_0 (I := I28167) (A := A28167) hV28167), (IvM_s17_164 (I := I28167) (A := A28167) hV28167), (IvM_lv (I := I28167) (A := A28167) hV28167), (IvM_sd (I := I28167) (A := A28167) hV28167), (IvM_nq (I := I28167) (A := A28167) hV28167), (IvM_hr (I := I28167) (A := A28167) hV28167), (hh_off (IvM_hh (I := I28167) (A := A28167) hV28167) (by decide)), trivial⟩ (show L28167 = L28164 from hL28167) (by omega) (by omega) (by omega) (by omega) hF)
                    have b28184 := Int32.le_toInt (0 : Int32)
                    have b28185 := Int32.toInt_lt (0 : Int32)
                    have n28183a : 3 - (0 : Int32).toInt < (FU : Int) := by have := FU_eq; omega
                    have n28183b : 0 < FU := by have := FU_eq; omega
                    exact lp28176 FU 0 (upd I28164 22 0) A28164 L28164 Md.rf Md.rf ⟨(IvM_f1 (I := I28164) (A := A28164) hV28164), (IvM_f2 (I := I28164) (A := A28164) hV28164), (IvM_f3 (I := I28164) (A := A28164) hV28164), (IvM_f4 (I := I28164) (A := A28164) hV28164), (IvM_f6 (I := I28164) (A := A28164) hV28164), (IvM_f8 (I := I28164) (A := A28164) hV28164), (IvM_f15 (I := I28164) (A := A28164) hV28164), (IvM_f16 (I := I28164) (A := A28164) hV28164), (IvM_f17 (I := I28164) (A := A28164) hV28164), (IvM_f18 (I := I28164) (A := A28164) hV28164), (show 0 ≤ (0 : Int32).toInt ∧ (0 : Int32).toInt ≤ 40 from ⟨by decide, by decide⟩), (IvM_f23 (I := I28164) (A := A28164) hV28164), (IvM_f24 (I := I28164) (A := A28164) hV28164), (IvM_a11 (I := I28164) (A := A28164) hV28164), (IvM_a26 (I := I28164) (A := A28164) hV28164), (IvM_s8_0 (I := I28164) (A := A28164) hV28164), (IvM_s8_1 (I := I28164) (A := A28164) hV28164), (IvM_s10_0 (I := I28164) (A := A28164) hV28164), (IvM_s10_1 (I := I28164) (A := A28164) hV28164), (IvM_s17_0 (I := I28164) (A := A28164) hV28164), (IvM_s17_164 (I := I28164) (A := A28164) hV28164), (IvM_lv (I := I28164) (A := A28164) hV28164), (IvM_sd (I := I28164) (A := A28164) hV28164), (IvM_nq (I := I28164) (A := A28164) hV28164), (fun j hj => absurd (show (j : Int) < (0 : Int32).toInt from hj) (by have : (0 : Int32).toInt = 0 := rfl; omega)), (IvM_hh (I := I28164) (A := A28164) hV28164), trivial⟩ rfl (by omega) (by omega) n28183a n28183b hF
                  · skip
                    replace hF := FE.neg hF c28156
                    refine g_aload_n hk dX12_read_133 rfl ?_
                    refine gM_i9 (v := (I28037 9)) hk hin12 (List.mem_cons_of_mem _ (List.mem_append_left _ (List.mem_of_getElem? (i := 34) rfl))) dX12_read_134 rfl ?_
                    refine g_goto (tgt := 141) hk dX12_read_137 (by decide) ?_
                    refine pM_i10 hk hin12 (List.mem_cons_of_mem _ (List.mem_append_left _ (List.mem_of_getElem? (i := 22) rfl))) dX12_read_141 ?_
                    refine g_aload_n hk dX12_read_144 rfl ?_
                    refine g_aload_n hk dX12_read_145 rfl ?_
                    refine gM_i6 (v := (I28037 6)) hk hin12 (List.mem_cons_of_mem _ (List.mem_append_left _ (List.mem_of_getElem? (i := 7) rfl))) dX12_read_146 rfl ?_
                    refine g_if_le (tgt := 159) (a := (I28037 6).toInt) hk dX12_read_149 (by decide) rfl (fun _ => ?_) (fun z9 => absurd (show (I28037 6).toInt ≤ 0 from by omega) z9)
                    refine g_aload_n hk dX12_read_159 rfl ?_
                    refine gM_i8 (v := (I28037 8)) hk hin12 (List.mem_cons_of_mem _ (List.mem_append_left _ (List.mem_of_getElem? (i := 8) rfl))) dX12_read_160 rfl ?_
                    refine g_if_le (tgt := 173) (a := (I28037 8).toInt) hk dX12_read_163 (by decide) rfl (fun z9 => absurd z9 (show ¬ ((I28037 8).toInt ≤ 0) from by omega)) (fun _ => ?_)
                    refine g_aload_n hk dX12_read_166 rfl ?_
                    refine gM_i13 (v := (I28037 13)) hk hin12 (List.mem_cons_of_mem _ (List.mem_append_left _ (List.mem_of_getElem? (i := 35) rfl))) dX12_read_167 rfl ?_
                    refine g_goto (tgt := 174) hk dX12_read_170 (by decide) ?_
                    refine pM_i14 hk hin12 (List.mem_cons_of_mem _ (List.mem_append_left _ (List.mem_of_getElem? (i := 23) rfl))) dX12_read_174 ?_
                    refine g_aload_n hk dX12_read_177 rfl ?_
                    refine gM_i6 (v := (I28037 6)) hk hin12 (List.mem_cons_of_mem _ (List.mem_append_left _ (List.mem_of_getElem? (i := 7) rfl))) dX12_read_178 rfl ?_
                    refine g_if_le (tgt := 189) (a := (I28037 6).toInt) hk dX12_read_181 (by decide) rfl (fun _ => ?_) (fun z9 => absurd (show (I28037 6).toInt ≤ 0 from by omega) z9)
                    refine g_aload_n hk dX12_read_189 rfl ?_
                    refine gM_i8 (v := (I28037 8)) hk hin12 (List.mem_cons_of_mem _ (List.mem_append_left _ (List.mem_of_getElem? (i := 8) rfl))) dX12_read_190 rfl ?_
                    refine g_if_le (tgt := 201) (a := (I28037 8).toInt) hk dX12_read_193 (by decide) rfl (fun z9 => absurd z9 (show ¬ ((I28037 8).toInt ≤ 0) from by omega)) (fun _ => ?_)
                    refine g_aload_n hk dX12_read_196 rfl ?_
                    refine gM_i8 (v := (I28037 8)) hk hin12 (List.mem_cons_of_mem _ (List.mem_append_left _ (List.mem_of_getElem? (i := 8) rfl))) dX12_read_197 rfl ?_
                    exact g_iret hk hR rfl ⟨(upd (upd I28037 10 (I28037 9)) 14 (I28037 13)), A28037, L28037, (show Md [1, 2, 3, 4, 6, 7, 8, 9, 10, 11, 12, 13, 14, 15, 16, 17, 22] I (upd (upd I28037 10 (I28037 9)) 14 (I28037 13)) from (Md.up (Md.up (Md.tr (Md.up (Md.up (Md.up (Md.up (Md.up (Md.up (Md.tr (Md.up (Md.tr (Md.up Md.rf rfl) hI10852 rfl) rfl) hI27866 rfl) rfl) rfl) rfl) rfl) rfl) rfl) hI28037 rfl) rfl) rfl)), (show Md [1, 2, 3, 4, 8, 9, 10, 11, 12, 13, 14, 15, 16, 17, 18, 27] A A28037 from (Md.tr (Md.up3 (Md.up3 (Md.up3 (Md.up3 (Md.up3 (Md.up3 (Md.tr (Md.tr Md.rf hA10852 rfl) hA27866 rfl) rfl) rfl) rfl) rfl) rfl) rfl) hA28037 rfl)), ⟨(IvM_f1 (I := I28037) (A := A28037) hV28037), (IvM_f2 (I := I28037) (A := A28037) hV28037), (IvM_f3 (I := I28037) (A := A28037) hV28037), (IvM_f4 (I := I28037) (A := A28037) hV28037), (IvM_f6 (I := I28037) (A := A28037) hV28037), (IvM_f8 (I := I28037) (A := A28037) hV28037), (IvM_f15 (I := I28037) (A := A28037) hV28037), (IvM_f16 (I := I28037) (A := A28037) hV28037), (IvM_f17 (I := I28037) (A := A28037) hV28037), (IvM_f18 (I := I28037) (A := A28037) hV28037), (IvM_f22 (I := I28037) (A := A28037) hV28037), (IvM_f23 (I := I28037) (A := A28037) hV28037), (IvM_f24 (I := I28037) (A := A28037) hV28037), (IvM_a11 (I := I28037) (A := A28037) hV28037), (IvM_a26 (I := I28037) (A := A28037) hV28037), (IvM_s8_0 (I := I28037) (A := A28037) hV28037), (IvM_s8_1 (I := I28037) (A := A28037) hV28037), (IvM_s10_0 (I := I28037) (A := A28037) hV28037), (IvM_s10_1 (I := I28037) (A := A28037) hV28037), (IvM_s17_0 (I := I28037) (A := A28037) hV28037), (IvM_s17_164 (I := I28037) (A := A28037) hV28037), (IvM_lv (I := I28037) (A := A28037) hV28037), (IvM_sd (I := I28037) (A := A28037) hV28037), (IvM_nq (I := I28037) (A := A28037) hV28037), (IvM_hr (I := I28037) (A := A28037) hV28037), (IvM_hh (I := I28037) (A := A28037) hV28037), trivial⟩, (I28037 8), (by rw [show (upd (upd I28037 10 (I28037 9)) 14 (I28037 13)) 1 = 0 from ((hI28037 1 rfl).trans (hI27866 1 rfl))]; omega), (by omega), (by omega), hF, rfl, rfl⟩ dX12_read_200
          have b28187 := Int32.le_toInt (0 : Int32)
          have b28188 := Int32.toInt_lt (0 : Int32)
          have n28186a : 10 * (401 - (0 : Int32).toInt) + (10 - (0 : Int32).toInt) < (FU : Int) := by have := FU_eq; omega
          have n28186b : 0 < FU := by have := FU_eq; omega
          have g28189 : (I27866 15).toInt = (I 15).toInt := by rw [show (I27866 15) = (I 15) from ((hI27866 15 rfl).trans (hI10852 15 rfl))]
          have g28190 : (I27866 16).toInt = (I 16).toInt := by rw [show (I27866 16) = (I 16) from ((hI27866 16 rfl).trans (hI10852 16 rfl))]
          have g28191 := IvM_s10_0 (I := I27866) (A := A27866) hV27866
          have g28192 := IvM_s10_1 (I := I27866) (A := A27866) hV27866
          exact lp28133 FU (upd (upd (upd (upd (upd (upd I27866 4 0) 6 0) 8 0) 11 (-2)) 16 0) 17 0) (up3 (up3 (up3 (up3 (up3 (up3 A27866 8 0 0) 10 0 0) 13 0 2) 14 0 0) 15 0 0) 16 0 8) L27866 Md.rf Md.rf ⟨(IvM_f1 (I := I27866) (A := A27866) hV27866), (IvM_f2 (I := I27866) (A := A27866) hV27866), (IvM_f3 (I := I27866) (A := A27866) hV27866), (show 0 ≤ (0 : Int32).toInt ∧ (0 : Int32).toInt ≤ 400 from ⟨by decide, by decide⟩), (show 0 ≤ (0 : Int32).toInt ∧ (0 : Int32).toInt ≤ 9 from ⟨by decide, by decide⟩), (show 0 ≤ (0 : Int32).toInt ∧ (0 : Int32).toInt ≤ 9 from ⟨by decide, by decide⟩), (IvM_f15 (I := I27866) (A := A27866) hV27866), (show 0 ≤ (0 : Int32).toInt ∧ (0 : Int32).toInt ≤ 1 from ⟨by decide, by decide⟩), (show 0 ≤ (0 : Int32).toInt ∧ (0 : Int32).toInt ≤ 5 from ⟨by decide, by decide⟩), (IvM_f18 (I := I27866) (A := A27866) hV27866), (IvM_f22 (I := I27866) (A := A27866) hV27866), (IvM_f23 (I := I27866) (A := A27866) hV27866), (IvM_f24 (I := I27866) (A := A27866) hV27866), (IvM_a11 (I := I27866) (A := A27866) hV27866), (IvM_a26 (I := I27866) (A := A27866) hV27866), (show 0 ≤ ((up3 (up3 (up3 (up3 (up3 (up3 A27866 8 0 0) 10 0 0) 13 0 2) 14 0 0) 15 0 0) 16 0 8) 8 0).toInt ∧ ((up3 (up3 (up3 (up3 (up3 (up3 A27866 8 0 0) 10 0 0) 13 0 2) 14 0 0) 15 0 0) 16 0 8) 8 0).toInt ≤ 160 from by rw [show (up3 (up3 (up3 (up3 (up3 (up3 A27866 8 0 0) 10 0 0) 13 0 2) 14 0 0) 15 0 0) 16 0 8) 8 0 = 0 from rfl]; exact ⟨by decide, by decide⟩), (show 0 ≤ ((up3 (up3 (up3 (up3 (up3 (up3 A27866 8 0 0) 10 0 0) 13 0 2) 14 0 0) 15 0 0) 16 0 8) 8 1).toInt ∧ ((up3 (up3 (up3 (up3 (up3 (up3 A27866 8 0 0) 10 0 0) 13 0 2) 14 0 0) 15 0 0) 16 0 8) 8 1).toInt ≤ 160 from by rw [show (up3 (up3 (up3 (up3 (up3 (up3 A27866 8 0 0) 10 0 0) 13 0 2) 14 0 0) 15 0 0) 16 0 8) 8 1 = (A27866 8 1) from rfl]; exact (IvM_s8_1 (I := I27866) (A := A27866) hV27866)), (show 0 ≤ ((up3 (up3 (up3 (up3 (up3 (up3 A27866 8 0 0) 10 0 0) 13 0 2) 14 0 0) 15 0 0) 16 0 8) 10 0).toInt ∧ ((up3 (up3 (up3 (up3 (up3 (up3 A27866 8 0 0) 10 0 0) 13 0 2) 14 0 0) 15 0 0) 16 0 8) 10 0).toInt ≤ 5 from by rw [show (up3 (up3 (up3 (up3 (up3 (up3 A27866 8 0 0) 10 0 0) 13 0 2) 14 0 0) 15 0 0) 16 0 8) 10 0 = 0 from rfl]; exact ⟨by decide, by decide⟩), (show 0 ≤ ((up3 (up3 (up3 (up3 (up3 (up3 A27866 8 0 0) 10 0 0) 13 0 2) 14 0 0) 15 0 0) 16 0 8) 10 1).toInt ∧ ((up3 (up3 (up3 (up3 (up3 (up3 A27866 8 0 0) 10 0 0) 13 0 2) 14 0 0) 15 0 0) 16 0 8) 10 1).toInt ≤ 5 from by rw [show (up3 (up3 (up3 (up3 (up3 (up3 A27866 8 0 0) 10 0 0) 13 0 2) 14 0 0) 15 0 0) 16 0 8) 10 1 = (A27866 10 1) from rfl]; exact (IvM_s10_1 (I := I27866) (A := A27866) hV27866)), (IvM_s17_0 (I := I27866) (A := A27866) hV27866), (IvM_s17_164 (I := I27866) (A := A27866) hV27866), ⟨fun e => by have e : (I27866 15).toInt = 0 := e; first | exact (IvM_lv (I := I27866) (A := A27866) hV27866).1 e | (exfalso; omega), fun e => by have e : (I27866 15).toInt = 1 := e; first | exact (IvM_lv (I := I27866) (A := A27866) hV27866).2 e | (exfalso; omega)⟩, (Or.inr (Or.inr ⟨fun e => ghf_0 (show 1 ≤ (8 : Int32).toInt from by decide) (show (0 : Int32).toInt = 0 from rfl), fun e => absurd (show (0 : Int32).toInt = 1 from e) (by decide)⟩)), ⟨fun e => (show (0 : Int32).toInt = (0 : Int32).toInt from rfl), fun e => absurd (show (0 : Int32).toInt = 1 from e) (by decide)⟩, (IvM_hr (I := I27866) (A := A27866) hV27866), (IvM_hh (I := I27866) (A := A27866) hV27866), trivial⟩ (by first | exact n28186a | (rw [show ((upd (upd (upd (upd (upd (upd I27866 4 0) 6 0) 8 0) 11 (-2)) 16 0) 17 0) 4) = (0 : Int32) from rfl, show ((upd (upd (upd (upd (upd (upd I27866 4 0) 6 0) 8 0) 11 (-2)) 16 0) 17 0) 6) = (0 : Int32) from rfl] <;> exact n28186a)) n28186b hF
        replace hF := FE.neg hF c28033
        exfalso; omega
      · skip
        replace hF := FE.neg hF c27864
        refine g_aload_n hk dX12_read_18 rfl ?_
        refine gM_r0_3 hk hin12 (List.mem_cons_of_mem _ (List.mem_append_left _ (List.mem_of_getElem? (i := 36) rfl))) dX12_read_19 ?_
        refine g_iload_n hk dX12_read_22 rfl ?_
        refine g_aload_n hk dX12_read_23 rfl ?_
        refine gM_r0_1 hk hin12 (List.mem_cons_of_mem _ (List.mem_append_left _ (List.mem_of_getElem? (i := 37) rfl))) dX12_read_24 ?_
        refine g_iload_n hk dX12_read_27 rfl ?_
        refine lM_0 (v := (A 0 x10850.toNatClampNeg)) hk (vp_in_iff.mpr ⟨by omega, by omega⟩) (congrFun (hA10852 0 rfl) _) dX12_read_28 ?_
        refine sM_1 (y := (vp_nar .byte (A 0 x10850.toNatClampNeg))) (j := x10850.toNatClampNeg) hk (vp_in_iff.mpr ⟨by omega, by omega⟩) rfl rfl dX12_read_29 ?_
        obtain ⟨y28193, ey28193⟩ : ∃ y : Int32, y = x10850 + Int32.ofInt 1 := ⟨_, rfl⟩
        replace hF := FE.lt hF ey28193
        have hy28193 : y28193.toInt = x10850.toInt + 1 := i32_add ey28193 rfl (by decide) (by omega) (by omega)
        refine g_iinc (v := y28193) (lv' := [(1, .int y28193), (0, .ref (r 0))]) hk 0 dX12_read_30 rfl ey28193.symm (by decide) rfl ?_
        refine g_goto (tgt := 10) hk dX12_read_33 (by decide) ?_
        exact g_lv (List.forall_mem_cons.mpr ⟨List.mem_of_getElem? (i := 0) rfl, (List.forall_mem_cons.mpr ⟨List.mem_of_getElem? (i := 1) rfl, (fun _ h => absurd h List.not_mem_nil)⟩)⟩) (ih27863 y28193 I10852 (up3 A10852 1 (x10850.toNatClampNeg) (vp_nar .byte (A 0 x10850.toNatClampNeg))) L10852 (show Md [] (upd I 2 (I 1)) I10852 from Md.tr hI10852 (show Md [] I10852 I10852 from Md.rf) rfl) (show Md [1] A (up3 A10852 1 (x10850.toNatClampNeg) (vp_nar .byte (A 0 x10850.toNatClampNeg))) from Md.tr hA10852 (show Md [1] A10852 (up3 A10852 1 (x10850.toNatClampNeg) (vp_nar .byte (A 0 x10850.toNatClampNeg))) from (Md.up3 Md.rf rfl)) rfl) ⟨(IvM_f1 (I := I10852) (A := A10852) hV10852), (IvM_f2 (I := I10852) (A := A10852) hV10852), (IvM_f3 (I := I10852) (A := A10852) hV10852), (IvM_f4 (I := I10852) (A := A10852) hV10852), (IvM_f6 (I := I10852) (A := A10852) hV10852), (IvM_f8 (I := I10852) (A := A10852) hV10852), (IvM_f15 (I := I10852) (A := A10852) hV10852), (IvM_f16 (I := I10852) (A := A10852) hV10852), (IvM_f17 (I := I10852) (A := A10852) hV10852), (IvM_f18 (I := I10852) (A := A10852) hV10852), (IvM_f22 (I := I10852) (A := A10852) hV10852), (IvM_f23 (I := I10852) (A := A10852) hV10852), (IvM_f24 (I := I10852) (A := A10852) hV10852), (IvM_a11 (I := I10852) (A := A10852) hV10852), (IvM_a26 (I := I10852) (A := A10852) hV10852), (IvM_s8_0 (I := I10852) (A := A10852) hV10852), (IvM_s8_1 (I := I10852) (A := A10852) hV10852), (IvM_s10_0 (I := I10852) (A := A10852) hV10852), (IvM_s10_1 (I := I10852) (A := A10852) hV10852), (IvM_s17_0 (I := I10852) (A := A10852) hV10852), (IvM_s17_164 (I := I10852) (A := A10852) hV10852), (IvM_lv (I := I10852) (A := A10852) hV10852), (IvM_sd (I := I10852) (A := A10852) hV10852), (IvM_nq (I := I10852) (A := A10852) hV10852), (IvM_hr (I := I10852) (A := A10852) hV10852), (IvM_hh (I := I10852) (A := A10852) hV10852), trivial⟩ (show L10852 = L from hL10852) (by omega) (by omega) (by omega) (by omega) hF)
  have k28194 : (0 : Int32).toInt = 0 := rfl
  have b28196 := Int32.le_toInt (0 : Int32)
  have b28197 := Int32.toInt_lt (0 : Int32)
  have n28195a : 2001 - (0 : Int32).toInt < (FU : Int) := by have := FU_eq; omega
  have n28195b : 0 < FU := by have := FU_eq; omega
  exact lp27859 FU 0 (upd I 2 (I 1)) A L Md.rf Md.rf ⟨(IvM_f1 (I := I) (A := A) hIv), (show 0 ≤ (I 1).toInt ∧ (I 1).toInt ≤ 2000 from ⟨by omega, by omega⟩), (IvM_f3 (I := I) (A := A) hIv), (IvM_f4 (I := I) (A := A) hIv), (IvM_f6 (I := I) (A := A) hIv), (IvM_f8 (I := I) (A := A) hIv), (IvM_f15 (I := I) (A := A) hIv), (IvM_f16 (I := I) (A := A) hIv), (IvM_f17 (I := I) (A := A) hIv), (IvM_f18 (I := I) (A := A) hIv), (IvM_f22 (I := I) (A := A) hIv), (IvM_f23 (I := I) (A := A) hIv), (IvM_f24 (I := I) (A := A) hIv), (IvM_a11 (I := I) (A := A) hIv), (IvM_a26 (I := I) (A := A) hIv), (IvM_s8_0 (I := I) (A := A) hIv), (IvM_s8_1 (I := I) (A := A) hIv), (IvM_s10_0 (I := I) (A := A) hIv), (IvM_s10_1 (I := I) (A := A) hIv), (IvM_s17_0 (I := I) (A := A) hIv), (IvM_s17_164 (I := I) (A := A) hIv), (IvM_lv (I := I) (A := A) hIv), (IvM_sd (I := I) (A := A) hIv), (IvM_nq (I := I) (A := A) hIv), (IvM_hr (I := I) (A := A) hIv), (IvM_hh (I := I) (A := A) hIv), trivial⟩ rfl (by omega) (by omega) n28195a n28195b hF
noncomputable def fM12_place (I : Nat → Int32) (A : Nat → Nat → Int32) (L : Nat → Nat → Int64) : Int32 := (I 10)
def wo_j140_X12_place : List Cond := [Cond.fieldLink RX12 37 "WarpDeskModel" "place" "I"]
def wz_j140_X12_place : List Cond := .code yX12_place cX12_place 1 (some .int) :: (wo_j140_X12_place ++ (wsX120 ++ ([] : List Cond)))
theorem zg_j140_X12_place : ∀ w ∈ wz_j140_X12_place, goodWord w = true := zg_cons rfl (zg_app (by decide +kernel) (zg_app zgU_wsX120 zg_nil))
theorem zi_j140_X12_place : ∀ w ∈ wz_j140_X12_place, w ∈ lw_tbl := zi_cons zw_1639 (zi_app (zi_cons zw_1395 zi_nil) (zi_app inX12 zi_nil))
set_option maxHeartbeats 4000000 in
set_option maxRecDepth 100000 in
theorem j140_X12_place (l : Launch) (D : va_G) (zt : Nat × Nat × Nat × (Nat → Nat) × (Nat → Nat)) (r : Nat → Nat) (g : Nat → ClassId) (I : Nat → Int32) (A : Nat → Nat → Int32) (L : Nat → Nat → Int64) (hIv : IvM I A) : GM l D zt (tyM g) yX12_place wz_j140_X12_place ({ frames := 0, cells := 0, slots := 0, locals := 0 } : Room) [.ref (r 0)] (wM r g I A L) (fun v _ w' => ∃ y0 : Int32, FE (fM12_place I A L) y0 ∧ v = some (.int y0) ∧ w' = wM r g I A L) 0 0 := by
  refine GM.of (cc := cX12_place) (maxL := 1) (ret := (some .int)) (own := RX12) (lv := [(0, .ref (r 0))]) (by decide) rfl rfl (Nat.le_of_ble_eq_true rfl) rfl (fun κ sz hk hR hN => ?_)
  have hin12 : ∀ w ∈ u_ws RX12 TX12 55, w ∈ wz_j140_X12_place := fun w h => (List.mem_cons_of_mem _ (List.mem_append_right _ (List.mem_append_left _ h)))
  have hF : FE (fM12_place I A L) (fM12_place I A L) := FE.rf
  refine g_aload_n hk dX12_place_0 rfl ?_
  refine gM_i10 (v := (I 10)) hk hin12 (List.mem_cons_of_mem _ (List.mem_append_left _ (List.mem_of_getElem? (i := 0) rfl))) dX12_place_1 rfl ?_
  have b28198l := Int32.le_toInt (I 10)
  have b28198h := Int32.toInt_lt (I 10)
  exact g_iret hk hR rfl ⟨(I 10), hF, rfl, rfl⟩ dX12_place_4
noncomputable def fM12_cause (I : Nat → Int32) (A : Nat → Nat → Int32) (L : Nat → Nat → Int64) : Int32 := (I 14)
def wo_j141_X12_cause : List Cond := [Cond.fieldLink RX12 111 "WarpDeskModel" "cause" "I"]
def wz_j141_X12_cause : List Cond := .code yX12_cause cX12_cause 1 (some .int) :: (wo_j141_X12_cause ++ (wsX120 ++ ([] : List Cond)))
theorem zg_j141_X12_cause : ∀ w ∈ wz_j141_X12_cause, goodWord w = true := zg_cons rfl (zg_app (by decide +kernel) (zg_app zgU_wsX120 zg_nil))
theorem zi_j141_X12_cause : ∀ w ∈ wz_j141_X12_cause, w ∈ lw_tbl := zi_cons zw_1643 (zi_app (zi_cons zw_1399 zi_nil) (zi_app inX12 zi_nil))
set_option maxHeartbeats 4000000 in
set_option maxRecDepth 100000 in
theorem j141_X12_cause (l : Launch) (D : va_G) (zt : Nat × Nat × Nat × (Nat → Nat) × (Nat → Nat)) (r : Nat → Nat) (g : Nat → ClassId) (I : Nat → Int32) (A : Nat → Nat → Int32) (L : Nat → Nat → Int64) (hIv : IvM I A) : GM l D zt (tyM g) yX12_cause wz_j141_X12_cause ({ frames := 0, cells := 0, slots := 0, locals := 0 } : Room) [.ref (r 0)] (wM r g I A L) (fun v _ w' => ∃ y0 : Int32, FE (fM12_cause I A L) y0 ∧ v = some (.int y0) ∧ w' = wM r g I A L) 0 0 := by
  refine GM.of (cc := cX12_cause) (maxL := 1) (ret := (some .int)) (own := RX12) (lv := [(0, .ref (r 0))]) (by decide) rfl rfl (Nat.le_of_ble_eq_true rfl) rfl (fun κ sz hk hR hN => ?_)
  have hin12 : ∀ w ∈ u_ws RX12 TX12 55, w ∈ wz_j141_X12_cause := fun w h => (List.mem_cons_of_mem _ (List.mem_append_right _ (List.mem_append_left _ h)))
  have hF : FE (fM12_cause I A L) (fM12_cause I A L) := FE.rf
  refine g_aload_n hk dX12_cause_0 rfl ?_
  refine gM_i14 (v := (I 14)) hk hin12 (List.mem_cons_of_mem _ (List.mem_append_left _ (List.mem_of_getElem? (i := 0) rfl))) dX12_cause_1 rfl ?_
  have b28199l := Int32.le_toInt (I 14)
  have b28199h := Int32.toInt_lt (I 14)
  exact g_iret hk hR rfl ⟨(I 14), hF, rfl, rfl⟩ dX12_cause_4
noncomputable def fM12_in (I : Nat → Int32) (A : Nat → Nat → Int32) (L : Nat → Nat → Int64) (z0 : Int32) (z1 : Int32) (z2 : Int32) : Int32 := if z0.toInt < z1.toInt then 0 else if z2.toInt < z0.toInt then 0 else 1
def wz_j145_X12_in : List Cond := .code yX12_in cX12_in 3 (some .boolean) :: (wo_k126_X10_isLetter ++ ([] : List Cond))
theorem zg_j145_X12_in : ∀ w ∈ wz_j145_X12_in, goodWord w = true := zg_cons rfl (zg_app (by decide +kernel) zg_nil)
theorem zi_j145_X12_in : ∀ w ∈ wz_j145_X12_in, w ∈ lw_tbl := zi_cons zw_1658 (zi_app zi_nil zi_nil)
set_option maxHeartbeats 4000000 in
set_option maxRecDepth 100000 in
theorem j145_X12_in (l : Launch) (D : va_G) (zt : Nat × Nat × Nat × (Nat → Nat) × (Nat → Nat)) (r : Nat → Nat) (g : Nat → ClassId) (I : Nat → Int32) (A : Nat → Nat → Int32) (L : Nat → Nat → Int64) (z0 : Int32) (z1 : Int32) (z2 : Int32) (hIv : IvM I A) : GM l D zt (tyM g) yX12_in wz_j145_X12_in ({ frames := 0, cells := 0, slots := 0, locals := 0 } : Room) [.int z0, .int z1, .int z2] (wM r g I A L) (fun v _ w' => ((z0.toInt < z1.toInt ∨ z2.toInt < z0.toInt) ∧ FE (fM12_in I A L z0 z1 z2) (0) ∧ v = some (.int 0) ∧ w' = wM r g I A L) ∨ ((¬ (z0.toInt < z1.toInt)) ∧ (¬ (z2.toInt < z0.toInt)) ∧ FE (fM12_in I A L z0 z1 z2) (1) ∧ v = some (.int 1) ∧ w' = wM r g I A L)) 0 0 := by
  refine GM.of (cc := cX12_in) (maxL := 3) (ret := (some .boolean)) (own := RX12) (lv := [(0, .int z0), (1, .int z1), (2, .int z2)]) (by decide) rfl rfl (Nat.le_of_ble_eq_true rfl) rfl (fun κ sz hk hR hN => ?_)
  have hF : FE (fM12_in I A L z0 z1 z2) (fM12_in I A L z0 z1 z2) := FE.rf
  refine g_iload_n hk dX12_in_0 rfl ?_
  refine g_iload_n hk dX12_in_1 rfl ?_
  have b28202l := Int32.le_toInt z0
  have b28202h := Int32.toInt_lt z0
  have b28203l := Int32.le_toInt z1
  have b28203h := Int32.toInt_lt z1
  refine g_icmp_lt (tgt := 14) (a := z0.toInt) (b := z1.toInt) hk dX12_in_2 (by decide) rfl rfl (fun c28204 => ?_) (fun c28204 => ?_)
  · skip
    replace hF := FE.pos hF c28204
    refine g_iconst (v := 0) hk dX12_in_14 (by decide) ?_
    exact g_iret hk hR rfl (Or.inl ⟨(by omega), hF, rfl, rfl⟩) dX12_in_15
  · skip
    replace hF := FE.neg hF c28204
    refine g_iload_n hk dX12_in_5 rfl ?_
    refine g_iload_n hk dX12_in_6 rfl ?_
    have b28205l := Int32.le_toInt z2
    have b28205h := Int32.toInt_lt z2
    refine g_icmp_gt (tgt := 14) (a := z0.toInt) (b := z2.toInt) hk dX12_in_7 (by decide) rfl rfl (fun c28206 => ?_) (fun c28206 => ?_)
    · skip
      replace hF := FE.pos hF c28206
      refine g_iconst (v := 0) hk dX12_in_14 (by decide) ?_
      exact g_iret hk hR rfl (Or.inl ⟨(by omega), hF, rfl, rfl⟩) dX12_in_15
    · skip
      replace hF := FE.neg hF c28206
      refine g_iconst (v := 1) hk dX12_in_10 (by decide) ?_
      refine g_goto (tgt := 15) hk dX12_in_11 (by decide) ?_
      exact g_iret hk hR rfl (Or.inr (⟨c28204, c28206, hF, rfl, rfl⟩)) dX12_in_15
noncomputable def fM12_isPlace (I : Nat → Int32) (A : Nat → Nat → Int32) (L : Nat → Nat → Int64) (z1 : Int32) : Int32 := f_lt ((A 17 0) - (1 : Int32)) fun y28201 => if fM12_in I A L z1 0 y28201 = 0 then 0 else 1
def wo_j144_X12_isPlace : List Cond := [Cond.fieldLink RX12 70 "WarpDeskModel" "now" "[I", Cond.methodLink RX12 244 yX12_in, Cond.static yX12_in, Cond.initialized RX12]
def wz_j144_X12_isPlace : List Cond := .code yX12_isPlace cX12_isPlace 2 (some .boolean) :: (wo_j144_X12_isPlace ++ (wsX120 ++ (wz_j145_X12_in ++ ([] : List Cond))))
theorem zg_j144_X12_isPlace : ∀ w ∈ wz_j144_X12_isPlace, goodWord w = true := zg_cons rfl (zg_app (by decide +kernel) (zg_app zgU_wsX120 (zg_app zg_j145_X12_in zg_nil)))
theorem zi_j144_X12_isPlace : ∀ w ∈ wz_j144_X12_isPlace, w ∈ lw_tbl := zi_cons zw_1655 (zi_app (zi_cons zw_1413 (zi_cons zw_1656 (zi_cons zw_1657 (zi_cons zw_115 zi_nil)))) (zi_app inX12 (zi_app zi_j145_X12_in zi_nil)))
set_option maxHeartbeats 4000000 in
set_option maxRecDepth 100000 in
theorem j144_X12_isPlace (l : Launch) (D : va_G) (zt : Nat × Nat × Nat × (Nat → Nat) × (Nat → Nat)) (r : Nat → Nat) (g : Nat → ClassId) (I : Nat → Int32) (A : Nat → Nat → Int32) (L : Nat → Nat → Int64) (z1 : Int32) (hIv : IvM I A) : GM l D zt (tyM g) yX12_isPlace wz_j144_X12_isPlace ({ frames := 1, cells := 0, slots := 0, locals := 22 } : Room) [.ref (r 0), .int z1] (wM r g I A L) (fun v _ w' => (FE (fM12_isPlace I A L z1) (0) ∧ v = some (.int 0) ∧ w' = wM r g I A L) ∨ ((¬ (z1.toInt < 0)) ∧ (0 ≤ z1.toInt) ∧ (z1.toInt ≤ 159) ∧ FE (fM12_isPlace I A L z1) (1) ∧ v = some (.int 1) ∧ w' = wM r g I A L)) 0 0 := by
  refine GM.of (cc := cX12_isPlace) (maxL := 2) (ret := (some .boolean)) (own := RX12) (lv := [(0, .ref (r 0)), (1, .int z1)]) (by decide) rfl rfl (Nat.le_of_ble_eq_true rfl) rfl (fun κ sz hk hR hN => ?_)
  have hin12 : ∀ w ∈ u_ws RX12 TX12 55, w ∈ wz_j144_X12_isPlace := fun w h => (List.mem_cons_of_mem _ (List.mem_append_right _ (List.mem_append_left _ h)))
  have hF : FE (fM12_isPlace I A L z1) (fM12_isPlace I A L z1) := FE.rf
  refine g_iload_n hk dX12_isPlace_0 rfl ?_
  refine g_iconst (v := 0) hk dX12_isPlace_1 (by decide) ?_
  refine g_aload_n hk dX12_isPlace_2 rfl ?_
  refine gM_r0_35 hk hin12 (List.mem_cons_of_mem _ (List.mem_append_left _ (List.mem_of_getElem? (i := 0) rfl))) dX12_isPlace_3 ?_
  refine g_iconst (v := 0) hk dX12_isPlace_6 (by decide) ?_
  refine lM_17 (v := (A 17 0)) hk (vp_in_iff.mpr ⟨by decide, by decide⟩) rfl dX12_isPlace_7 ?_
  have f28200 := IvM_s17_0 hIv
  refine g_iconst (v := 1) hk dX12_isPlace_8 (by decide) ?_
  refine g_isub hk dX12_isPlace_9 ?_
  refine g_topi (fun y28201 ey28201 => ?_)
  replace hF := FE.lt hF ey28201
  have hy28201 : y28201.toInt = (A 17 0).toInt - 1 := i32_sub ey28201 rfl rfl (by omega) (by omega)
  have k28207 : (0 : Int32).toInt = 0 := rfl
  refine g_callS (n := 3) hk (j145_X12_in l D zt r g I A L z1 0 y28201 hIv) (SP.same _) (fun _ h => h) (gi_S (List.mem_cons_of_mem _ (List.mem_append_left _ (List.mem_of_getElem? (i := 1) rfl))) (List.mem_cons_of_mem _ (List.mem_append_left _ (List.mem_of_getElem? (i := 2) rfl))) (List.mem_cons_of_mem _ (List.mem_append_left _ (List.mem_of_getElem? (i := 3) rfl))) (gi_sub (fun w h => (List.mem_cons_of_mem _ (List.mem_append_right _ (List.mem_append_right _ (List.mem_append_left _ h))))) zg_j145_X12_in)) rfl rfl rfl (by decide +kernel) ⟨Nat.le_of_ble_eq_true rfl, Nat.le_of_ble_eq_true rfl⟩ rfl rfl (Nat.le_of_ble_eq_true rfl) ⟨Nat.le_of_ble_eq_true rfl, Nat.le_of_ble_eq_true rfl⟩ dX12_isPlace_10 (fun v ty' w' hp hk' => ?_)
  rcases hp with ⟨c28208, hC, rfl, rfl⟩ | ⟨c28210, c28211, hC, rfl, rfl⟩
  · skip
    replace hF := FE.pos hF hC
    have b28213l := Int32.le_toInt z1
    have b28213h := Int32.toInt_lt z1
    show GW κ 2 0 0 (wM r g I A L) 13 [(0, .ref (r 0)), (1, .int z1)] [.int 0]
    exact g_iret hk hR rfl (Or.inl ⟨hF, rfl, rfl⟩) dX12_isPlace_13
  · skip
    replace hF := FE.neg hF (fe_ne hC (by decide))
    show GW κ 2 0 0 (wM r g I A L) 13 [(0, .ref (r 0)), (1, .int z1)] [.int 1]
    exact g_iret hk hR rfl (Or.inr (⟨c28210, (by omega), (by omega), hF, rfl, rfl⟩)) dX12_isPlace_13
noncomputable def fM12_isThere (I : Nat → Int32) (A : Nat → Nat → Int32) (L : Nat → Nat → Int64) (z1 : Int32) : Int32 := if fM12_isPlace I A L z1 = 0 then 0 else f_lt ((1 : Int32) + z1) fun y28219 => if (A 17 y28219.toNatClampNeg).toInt = 100000 then 0 else 1
def wo_j143_X12_isThere : List Cond := [Cond.methodLink RX12 248 yX12_isPlace, Cond.instanceMethod yX12_isPlace, Cond.selects RX12 yX12_isPlace yX12_isPlace, Cond.initialized RX12, Cond.fieldLink RX12 70 "WarpDeskModel" "now" "[I", Cond.constant RX12 239 (100000)]
def wz_j143_X12_isThere : List Cond := .code yX12_isThere cX12_isThere 2 (some .boolean) :: (wo_j143_X12_isThere ++ (wsX120 ++ (wz_j144_X12_isPlace ++ ([] : List Cond))))
theorem zg_j143_X12_isThere : ∀ w ∈ wz_j143_X12_isThere, goodWord w = true := zg_cons rfl (zg_app (by decide +kernel) (zg_app zgU_wsX120 (zg_app zg_j144_X12_isPlace zg_nil)))
theorem zi_j143_X12_isThere : ∀ w ∈ wz_j143_X12_isThere, w ∈ lw_tbl := zi_cons zw_1651 (zi_app (zi_cons zw_1652 (zi_cons zw_1654 (zi_cons zw_66 (zi_cons zw_115 (zi_cons zw_1413 (zi_cons zw_1607 zi_nil)))))) (zi_app inX12 (zi_app zi_j144_X12_isPlace zi_nil)))
set_option maxHeartbeats 4000000 in
set_option maxRecDepth 100000 in
theorem j143_X12_isThere (l : Launch) (D : va_G) (zt : Nat × Nat × Nat × (Nat → Nat) × (Nat → Nat)) (r : Nat → Nat) (g : Nat → ClassId) (I : Nat → Int32) (A : Nat → Nat → Int32) (L : Nat → Nat → Int64) (z1 : Int32) (hIv : IvM I A) : GM l D zt (tyM g) yX12_isThere wz_j143_X12_isThere ({ frames := 2, cells := 0, slots := 0, locals := 43 } : Room) [.ref (r 0), .int z1] (wM r g I A L) (fun v _ w' => (FE (fM12_isThere I A L z1) (0) ∧ v = some (.int 0) ∧ w' = wM r g I A L) ∨ ((¬ (z1.toInt < 0)) ∧ (0 ≤ z1.toInt) ∧ (z1.toInt ≤ 159) ∧ (0 ≤ z1.toInt) ∧ (z1.toInt ≤ 159) ∧ FE (fM12_isThere I A L z1) (1) ∧ v = some (.int 1) ∧ w' = wM r g I A L)) 0 0 := by
  refine GM.of (cc := cX12_isThere) (maxL := 2) (ret := (some .boolean)) (own := RX12) (lv := [(0, .ref (r 0)), (1, .int z1)]) (by decide) rfl rfl (Nat.le_of_ble_eq_true rfl) rfl (fun κ sz hk hR hN => ?_)
  have hin12 : ∀ w ∈ u_ws RX12 TX12 55, w ∈ wz_j143_X12_isThere := fun w h => (List.mem_cons_of_mem _ (List.mem_append_right _ (List.mem_append_left _ h)))
  have hF : FE (fM12_isThere I A L z1) (fM12_isThere I A L z1) := FE.rf
  refine g_aload_n hk dX12_isThere_0 rfl ?_
  refine g_iload_n hk dX12_isThere_1 rfl ?_
  refine g_callV (n := 1) hk (j144_X12_isPlace l D zt r g I A L z1 hIv) (SP.same _) (fun _ h => h) (gi_V (List.mem_cons_of_mem _ (List.mem_append_left _ (List.mem_of_getElem? (i := 0) rfl))) (List.mem_cons_of_mem _ (List.mem_append_left _ (List.mem_of_getElem? (i := 1) rfl))) (List.mem_cons_of_mem _ (List.mem_append_left _ (List.mem_of_getElem? (i := 2) rfl))) (List.mem_cons_of_mem _ (List.mem_append_left _ (List.mem_of_getElem? (i := 3) rfl))) (gi_sub (fun w h => (List.mem_cons_of_mem _ (List.mem_append_right _ (List.mem_append_right _ (List.mem_append_left _ h))))) zg_j144_X12_isPlace)) rfl rfl rfl (by decide +kernel) ⟨Nat.le_of_ble_eq_true rfl, Nat.le_of_ble_eq_true rfl⟩ 0 rfl rfl rfl rfl (Nat.le_of_ble_eq_true rfl) ⟨Nat.le_of_ble_eq_true rfl, Nat.le_of_ble_eq_true rfl⟩ dX12_isThere_2 (fun v ty' w' hp hk' => ?_)
  rcases hp with ⟨hC, rfl, rfl⟩ | ⟨c28215, c28216, c28217, hC, rfl, rfl⟩
  · skip
    replace hF := FE.pos hF hC
    show GW κ 2 0 0 (wM r g I A L) 5 [(0, .ref (r 0)), (1, .int z1)] [.int 0]
    refine g_if_eq (tgt := 25) (a := 0) hk dX12_isThere_5 (by decide) rfl (fun _ => ?_) (fun z9 => absurd (show (0 : Int) = (0 : Int) from by decide) z9)
    refine g_iconst (v := 0) hk dX12_isThere_25 (by decide) ?_
    exact g_iret hk hR rfl (Or.inl ⟨hF, rfl, rfl⟩) dX12_isThere_26
  · skip
    replace hF := FE.neg hF (fe_ne hC (by decide))
    show GW κ 2 0 0 (wM r g I A L) 5 [(0, .ref (r 0)), (1, .int z1)] [.int 1]
    refine g_if_eq (tgt := 25) (a := 1) hk dX12_isThere_5 (by decide) rfl (fun z9 => absurd z9 (show ¬ ((1 : Int) = (0 : Int)) from by decide)) (fun _ => ?_)
    refine g_aload_n hk dX12_isThere_8 rfl ?_
    refine gM_r0_35 hk hin12 (List.mem_cons_of_mem _ (List.mem_append_left _ (List.mem_of_getElem? (i := 4) rfl))) dX12_isThere_9 ?_
    refine g_iconst (v := 1) hk dX12_isThere_12 (by decide) ?_
    refine g_iload_n hk dX12_isThere_13 rfl ?_
    refine g_iadd hk dX12_isThere_14 ?_
    refine g_topi (fun y28219 ey28219 => ?_)
    replace hF := FE.lt hF ey28219
    have hy28219 : y28219.toInt = 1 + z1.toInt := i32_add ey28219 rfl rfl (by omega) (by omega)
    refine lM_17 (v := (A 17 y28219.toNatClampNeg)) hk (vp_in_iff.mpr ⟨by omega, by omega⟩) rfl dX12_isThere_15 ?_
    refine g_ldc (v := 100000) hk (List.mem_cons_of_mem _ (List.mem_append_left _ (List.mem_of_getElem? (i := 5) rfl))) dX12_isThere_16 ?_
    have b28220l := Int32.le_toInt (A 17 y28219.toNatClampNeg)
    have b28220h := Int32.toInt_lt (A 17 y28219.toNatClampNeg)
    refine g_icmp_eq (tgt := 25) (a := (A 17 y28219.toNatClampNeg).toInt) (b := 100000) hk dX12_isThere_18 (by decide) rfl rfl (fun c28221 => ?_) (fun c28221 => ?_)
    · skip
      replace hF := FE.pos hF c28221
      refine g_iconst (v := 0) hk dX12_isThere_25 (by decide) ?_
      exact g_iret hk hR rfl (Or.inl ⟨hF, rfl, rfl⟩) dX12_isThere_26
    · skip
      replace hF := FE.neg hF c28221
      refine g_iconst (v := 1) hk dX12_isThere_21 (by decide) ?_
      refine g_goto (tgt := 26) hk dX12_isThere_22 (by decide) ?_
      exact g_iret hk hR rfl (Or.inr (⟨c28215, c28216, c28217, (by omega), (by omega), hF, rfl, rfl⟩)) dX12_isThere_26
noncomputable def fM12_at (I : Nat → Int32) (A : Nat → Nat → Int32) (L : Nat → Nat → Int64) (z1 : Int32) : Int32 := if fM12_isThere I A L z1 = 0 then (-1000) else f_lt ((1 : Int32) + z1) fun y28229 => (A 17 y28229.toNatClampNeg)
def wo_j142_X12_at : List Cond := [Cond.methodLink RX12 320 yX12_isThere, Cond.instanceMethod yX12_isThere, Cond.selects RX12 yX12_isThere yX12_isThere, Cond.initialized RX12, Cond.fieldLink RX12 70 "WarpDeskModel" "now" "[I"]
def wz_j142_X12_at : List Cond := .code yX12_at cX12_at 2 (some .int) :: (wo_j142_X12_at ++ (wsX120 ++ (wz_j143_X12_isThere ++ ([] : List Cond))))
theorem zg_j142_X12_at : ∀ w ∈ wz_j142_X12_at, goodWord w = true := zg_cons rfl (zg_app (by decide +kernel) (zg_app zgU_wsX120 (zg_app zg_j143_X12_isThere zg_nil)))
theorem zi_j142_X12_at : ∀ w ∈ wz_j142_X12_at, w ∈ lw_tbl := zi_cons zw_1647 (zi_app (zi_cons zw_1648 (zi_cons zw_1650 (zi_cons zw_65 (zi_cons zw_115 (zi_cons zw_1413 zi_nil))))) (zi_app inX12 (zi_app zi_j143_X12_isThere zi_nil)))
set_option maxHeartbeats 4000000 in
set_option maxRecDepth 100000 in
theorem j142_X12_at (l : Launch) (D : va_G) (zt : Nat × Nat × Nat × (Nat → Nat) × (Nat → Nat)) (r : Nat → Nat) (g : Nat → ClassId) (I : Nat → Int32) (A : Nat → Nat → Int32) (L : Nat → Nat → Int64) (z1 : Int32) (hIv : IvM I A) : GM l D zt (tyM g) yX12_at wz_j142_X12_at ({ frames := 3, cells := 0, slots := 0, locals := 64 } : Room) [.ref (r 0), .int z1] (wM r g I A L) (fun v _ w' => ∃ y0 : Int32, FE (fM12_at I A L z1) y0 ∧ v = some (.int y0) ∧ w' = wM r g I A L) 0 0 := by
  refine GM.of (cc := cX12_at) (maxL := 2) (ret := (some .int)) (own := RX12) (lv := [(0, .ref (r 0)), (1, .int z1)]) (by decide) rfl rfl (Nat.le_of_ble_eq_true rfl) rfl (fun κ sz hk hR hN => ?_)
  have hin12 : ∀ w ∈ u_ws RX12 TX12 55, w ∈ wz_j142_X12_at := fun w h => (List.mem_cons_of_mem _ (List.mem_append_right _ (List.mem_append_left _ h)))
  have hF : FE (fM12_at I A L z1) (fM12_at I A L z1) := FE.rf
  refine g_aload_n hk dX12_at_0 rfl ?_
  refine g_iload_n hk dX12_at_1 rfl ?_
  refine g_callV (n := 1) hk (j143_X12_isThere l D zt r g I A L z1 hIv) (SP.same _) (fun _ h => h) (gi_V (List.mem_cons_of_mem _ (List.mem_append_left _ (List.mem_of_getElem? (i := 0) rfl))) (List.mem_cons_of_mem _ (List.mem_append_left _ (List.mem_of_getElem? (i := 1) rfl))) (List.mem_cons_of_mem _ (List.mem_append_left _ (List.mem_of_getElem? (i := 2) rfl))) (List.mem_cons_of_mem _ (List.mem_append_left _ (List.mem_of_getElem? (i := 3) rfl))) (gi_sub (fun w h => (List.mem_cons_of_mem _ (List.mem_append_right _ (List.mem_append_right _ (List.mem_append_left _ h))))) zg_j143_X12_isThere)) rfl rfl rfl (by decide +kernel) ⟨Nat.le_of_ble_eq_true rfl, Nat.le_of_ble_eq_true rfl⟩ 0 rfl rfl rfl rfl (Nat.le_of_ble_eq_true rfl) ⟨Nat.le_of_ble_eq_true rfl, Nat.le_of_ble_eq_true rfl⟩ dX12_at_2 (fun v ty' w' hp hk' => ?_)
  rcases hp with ⟨hC, rfl, rfl⟩ | ⟨c28223, c28224, c28225, c28226, c28227, hC, rfl, rfl⟩
  · skip
    replace hF := FE.pos hF hC
    show GW κ 2 0 0 (wM r g I A L) 5 [(0, .ref (r 0)), (1, .int z1)] [.int 0]
    refine g_if_eq (tgt := 19) (a := 0) hk dX12_at_5 (by decide) rfl (fun _ => ?_) (fun z9 => absurd (show (0 : Int) = (0 : Int) from by decide) z9)
    refine g_sipush (v := (-1000)) hk dX12_at_19 (by decide) ?_
    exact g_iret hk hR rfl ⟨(-1000), hF, rfl, rfl⟩ dX12_at_22
  · skip
    replace hF := FE.neg hF (fe_ne hC (by decide))
    show GW κ 2 0 0 (wM r g I A L) 5 [(0, .ref (r 0)), (1, .int z1)] [.int 1]
    refine g_if_eq (tgt := 19) (a := 1) hk dX12_at_5 (by decide) rfl (fun z9 => absurd z9 (show ¬ ((1 : Int) = (0 : Int)) from by decide)) (fun _ => ?_)
    refine g_aload_n hk dX12_at_8 rfl ?_
    refine gM_r0_35 hk hin12 (List.mem_cons_of_mem _ (List.mem_append_left _ (List.mem_of_getElem? (i := 4) rfl))) dX12_at_9 ?_
    refine g_iconst (v := 1) hk dX12_at_12 (by decide) ?_
    refine g_iload_n hk dX12_at_13 rfl ?_
    refine g_iadd hk dX12_at_14 ?_
    refine g_topi (fun y28229 ey28229 => ?_)
    replace hF := FE.lt hF ey28229
    have hy28229 : y28229.toInt = 1 + z1.toInt := i32_add ey28229 rfl rfl (by omega) (by omega)
    refine lM_17 (v := (A 17 y28229.toNatClampNeg)) hk (vp_in_iff.mpr ⟨by omega, by omega⟩) rfl dX12_at_15 ?_
    refine g_goto (tgt := 22) hk dX12_at_16 (by decide) ?_
    have b28230l := Int32.le_toInt (A 17 y28229.toNatClampNeg)
    have b28230h := Int32.toInt_lt (A 17 y28229.toNatClampNeg)
    exact g_iret hk hR rfl ⟨(A 17 y28229.toNatClampNeg), hF, rfl, rfl⟩ dX12_at_22
noncomputable def fM12_isQuery (I : Nat → Int32) (A : Nat → Nat → Int32) (L : Nat → Nat → Int64) (z1 : Int32) : Int32 := if (I 15).toInt = 0 then f_lt ((A 10 0) - (1 : Int32)) fun y28234 => if fM12_in I A L z1 0 y28234 = 0 then 0 else 1 else if (I 15).toInt = 1 then f_lt ((A 10 1) - (1 : Int32)) fun y28244 => if fM12_in I A L z1 0 y28244 = 0 then 0 else 1 else (0 : Int32)
def wo_j147_X12_isQuery : List Cond := [Cond.fieldLink RX12 49 "WarpDeskModel" "queries" "[I", Cond.fieldLink RX12 197 "WarpDeskModel" "live" "I", Cond.methodLink RX12 244 yX12_in, Cond.static yX12_in, Cond.initialized RX12]
def wz_j147_X12_isQuery : List Cond := .code yX12_isQuery cX12_isQuery 2 (some .boolean) :: (wo_j147_X12_isQuery ++ (wsX120 ++ (wz_j145_X12_in ++ ([] : List Cond))))
theorem zg_j147_X12_isQuery : ∀ w ∈ wz_j147_X12_isQuery, goodWord w = true := zg_cons rfl (zg_app (by decide +kernel) (zg_app zgU_wsX120 (zg_app zg_j145_X12_in zg_nil)))
theorem zi_j147_X12_isQuery : ∀ w ∈ wz_j147_X12_isQuery, w ∈ lw_tbl := zi_cons zw_1666 (zi_app (zi_cons zw_1406 (zi_cons zw_1400 (zi_cons zw_1656 (zi_cons zw_1657 (zi_cons zw_115 zi_nil))))) (zi_app inX12 (zi_app zi_j145_X12_in zi_nil)))
set_option maxHeartbeats 4000000 in
set_option maxRecDepth 100000 in
theorem j147_X12_isQuery (l : Launch) (D : va_G) (zt : Nat × Nat × Nat × (Nat → Nat) × (Nat → Nat)) (r : Nat → Nat) (g : Nat → ClassId) (I : Nat → Int32) (A : Nat → Nat → Int32) (L : Nat → Nat → Int64) (z1 : Int32) (hIv : IvM I A) : GM l D zt (tyM g) yX12_isQuery wz_j147_X12_isQuery ({ frames := 1, cells := 0, slots := 0, locals := 22 } : Room) [.ref (r 0), .int z1] (wM r g I A L) (fun v _ w' => (FE (fM12_isQuery I A L z1) (0) ∧ v = some (.int 0) ∧ w' = wM r g I A L) ∨ ((¬ (z1.toInt < 0)) ∧ (0 ≤ z1.toInt) ∧ (z1.toInt ≤ 4) ∧ (1 ≤ (A 11 (5 * (I 15) + z1).toNatClampNeg).toInt) ∧ FE (fM12_isQuery I A L z1) (1) ∧ v = some (.int 1) ∧ w' = wM r g I A L)) 0 0 := by
  refine GM.of (cc := cX12_isQuery) (maxL := 2) (ret := (some .boolean)) (own := RX12) (lv := [(0, .ref (r 0)), (1, .int z1)]) (by decide) rfl rfl (Nat.le_of_ble_eq_true rfl) rfl (fun κ sz hk hR hN => ?_)
  have hin12 : ∀ w ∈ u_ws RX12 TX12 55, w ∈ wz_j147_X12_isQuery := fun w h => (List.mem_cons_of_mem _ (List.mem_append_right _ (List.mem_append_left _ h)))
  have hF : FE (fM12_isQuery I A L z1) (fM12_isQuery I A L z1) := FE.rf
  refine g_iload_n hk dX12_isQuery_0 rfl ?_
  refine g_iconst (v := 0) hk dX12_isQuery_1 (by decide) ?_
  refine g_aload_n hk dX12_isQuery_2 rfl ?_
  refine gM_r0_28 hk hin12 (List.mem_cons_of_mem _ (List.mem_append_left _ (List.mem_of_getElem? (i := 0) rfl))) dX12_isQuery_3 ?_
  refine g_aload_n hk dX12_isQuery_6 rfl ?_
  refine gM_i15 (v := (I 15)) hk hin12 (List.mem_cons_of_mem _ (List.mem_append_left _ (List.mem_of_getElem? (i := 1) rfl))) dX12_isQuery_7 rfl ?_
  have f28231 := IvM_f15 hIv
  by_cases c28232 : (I 15).toInt = 0
  · have ec28232 : (I 15) = 0 := Int32.toInt_inj.mp c28232
    replace hF := FE.pos hF c28232
    rw [ec28232]
    show GW κ 2 0 0 (wM r g I A L) 10 [(0, .ref (r 0)), (1, .int z1)] [.int 0, .ref (r 11), .int 0, .int z1]
    refine lM_10 (v := (A 10 0)) hk (vp_in_iff.mpr ⟨by decide, by decide⟩) rfl dX12_isQuery_10 ?_
    have f28233 := IvM_s10_0 hIv
    refine g_iconst (v := 1) hk dX12_isQuery_11 (by decide) ?_
    refine g_isub hk dX12_isQuery_12 ?_
    refine g_topi (fun y28234 ey28234 => ?_)
    replace hF := FE.lt hF ey28234
    have hy28234 : y28234.toInt = (A 10 0).toInt - 1 := i32_sub ey28234 rfl rfl (by omega) (by omega)
    have k28235 : (0 : Int32).toInt = 0 := rfl
    refine g_callS (n := 3) hk (j145_X12_in l D zt r g I A L z1 0 y28234 hIv) (SP.same _) (fun _ h => h) (gi_S (List.mem_cons_of_mem _ (List.mem_append_left _ (List.mem_of_getElem? (i := 2) rfl))) (List.mem_cons_of_mem _ (List.mem_append_left _ (List.mem_of_getElem? (i := 3) rfl))) (List.mem_cons_of_mem _ (List.mem_append_left _ (List.mem_of_getElem? (i := 4) rfl))) (gi_sub (fun w h => (List.mem_cons_of_mem _ (List.mem_append_right _ (List.mem_append_right _ (List.mem_append_left _ h))))) zg_j145_X12_in)) rfl rfl rfl (by decide +kernel) ⟨Nat.le_of_ble_eq_true rfl, Nat.le_of_ble_eq_true rfl⟩ rfl rfl (Nat.le_of_ble_eq_true rfl) ⟨Nat.le_of_ble_eq_true rfl, Nat.le_of_ble_eq_true rfl⟩ dX12_isQuery_13 (fun v ty' w' hp hk' => ?_)
    rcases hp with ⟨c28236, hC, rfl, rfl⟩ | ⟨c28238, c28239, hC, rfl, rfl⟩
    · skip
      replace hF := FE.pos hF hC
      have b28241l := Int32.le_toInt z1
      have b28241h := Int32.toInt_lt z1
      show GW κ 2 0 0 (wM r g I A L) 16 [(0, .ref (r 0)), (1, .int z1)] [.int 0]
      exact g_iret hk hR rfl (Or.inl ⟨hF, rfl, rfl⟩) dX12_isQuery_16
    · skip
      replace hF := FE.neg hF (fe_ne hC (by decide))
      show GW κ 2 0 0 (wM r g I A L) 16 [(0, .ref (r 0)), (1, .int z1)] [.int 1]
      exact g_iret hk hR rfl (Or.inr (⟨c28238, (by omega), (by omega), (lv_w hIv (by omega) (by omega)), hF, rfl, rfl⟩)) dX12_isQuery_16
  replace hF := FE.neg hF c28232
  by_cases c28242 : (I 15).toInt = 1
  · have ec28242 : (I 15) = 1 := Int32.toInt_inj.mp c28242
    replace hF := FE.pos hF c28242
    rw [ec28242]
    show GW κ 2 0 0 (wM r g I A L) 10 [(0, .ref (r 0)), (1, .int z1)] [.int 1, .ref (r 11), .int 0, .int z1]
    refine lM_10 (v := (A 10 1)) hk (vp_in_iff.mpr ⟨by decide, by decide⟩) rfl dX12_isQuery_10 ?_
    have f28243 := IvM_s10_1 hIv
    refine g_iconst (v := 1) hk dX12_isQuery_11 (by decide) ?_
    refine g_isub hk dX12_isQuery_12 ?_
    refine g_topi (fun y28244 ey28244 => ?_)
    replace hF := FE.lt hF ey28244
    have hy28244 : y28244.toInt = (A 10 1).toInt - 1 := i32_sub ey28244 rfl rfl (by omega) (by omega)
    have k28245 : (0 : Int32).toInt = 0 := rfl
    refine g_callS (n := 3) hk (j145_X12_in l D zt r g I A L z1 0 y28244 hIv) (SP.same _) (fun _ h => h) (gi_S (List.mem_cons_of_mem _ (List.mem_append_left _ (List.mem_of_getElem? (i := 2) rfl))) (List.mem_cons_of_mem _ (List.mem_append_left _ (List.mem_of_getElem? (i := 3) rfl))) (List.mem_cons_of_mem _ (List.mem_append_left _ (List.mem_of_getElem? (i := 4) rfl))) (gi_sub (fun w h => (List.mem_cons_of_mem _ (List.mem_append_right _ (List.mem_append_right _ (List.mem_append_left _ h))))) zg_j145_X12_in)) rfl rfl rfl (by decide +kernel) ⟨Nat.le_of_ble_eq_true rfl, Nat.le_of_ble_eq_true rfl⟩ rfl rfl (Nat.le_of_ble_eq_true rfl) ⟨Nat.le_of_ble_eq_true rfl, Nat.le_of_ble_eq_true rfl⟩ dX12_isQuery_13 (fun v ty' w' hp hk' => ?_)
    rcases hp with ⟨c28246, hC, rfl, rfl⟩ | ⟨c28248, c28249, hC, rfl, rfl⟩
    · skip
      replace hF := FE.pos hF hC
      have b28251l := Int32.le_toInt z1
      have b28251h := Int32.toInt_lt z1
      show GW κ 2 0 0 (wM r g I A L) 16 [(0, .ref (r 0)), (1, .int z1)] [.int 0]
      exact g_iret hk hR rfl (Or.inl ⟨hF, rfl, rfl⟩) dX12_isQuery_16
    · skip
      replace hF := FE.neg hF (fe_ne hC (by decide))
      show GW κ 2 0 0 (wM r g I A L) 16 [(0, .ref (r 0)), (1, .int z1)] [.int 1]
      exact g_iret hk hR rfl (Or.inr (⟨c28248, (by omega), (by omega), (lv_w hIv (by omega) (by omega)), hF, rfl, rfl⟩)) dX12_isQuery_16
  replace hF := FE.neg hF c28242
  exfalso; omega
def wo_j148_X12_wideOf : List Cond := [Cond.fieldLink RX12 52 "WarpDeskModel" "queryMany" "[I", Cond.fieldLink RX12 197 "WarpDeskModel" "live" "I"]
def wz_j148_X12_wideOf : List Cond := .code yX12_wideOf cX12_wideOf 2 (some .int) :: (wo_j148_X12_wideOf ++ (wsX120 ++ ([] : List Cond)))
theorem zg_j148_X12_wideOf : ∀ w ∈ wz_j148_X12_wideOf, goodWord w = true := zg_cons rfl (zg_app (by decide +kernel) (zg_app zgU_wsX120 zg_nil))
theorem zi_j148_X12_wideOf : ∀ w ∈ wz_j148_X12_wideOf, w ∈ lw_tbl := zi_cons zw_1670 (zi_app (zi_cons zw_1407 (zi_cons zw_1400 zi_nil)) (zi_app inX12 zi_nil))
set_option maxHeartbeats 4000000 in
set_option maxRecDepth 100000 in
theorem j148_X12_wideOf (l : Launch) (D : va_G) (zt : Nat × Nat × Nat × (Nat → Nat) × (Nat → Nat)) (r : Nat → Nat) (g : Nat → ClassId) (I : Nat → Int32) (A : Nat → Nat → Int32) (L : Nat → Nat → Int64) (z1 : Int32) (hIv : IvM I A) (hp0 : 0 ≤ z1.toInt) (hp1 : z1.toInt ≤ 4) : GM l D zt (tyM g) yX12_wideOf wz_j148_X12_wideOf ({ frames := 0, cells := 0, slots := 0, locals := 0 } : Room) [.ref (r 0), .int z1] (wM r g I A L) (fun v _ w' => v = some (.int (A 11 ((5 * (I 15)) + z1).toNatClampNeg)) ∧ w' = wM r g I A L) 0 0 := by
  refine GM.of (cc := cX12_wideOf) (maxL := 2) (ret := (some .int)) (own := RX12) (lv := [(0, .ref (r 0)), (1, .int z1)]) (by decide) rfl rfl (Nat.le_of_ble_eq_true rfl) rfl (fun κ sz hk hR hN => ?_)
  have hin12 : ∀ w ∈ u_ws RX12 TX12 55, w ∈ wz_j148_X12_wideOf := fun w h => (List.mem_cons_of_mem _ (List.mem_append_right _ (List.mem_append_left _ h)))
  refine g_aload_n hk dX12_wideOf_0 rfl ?_
  refine gM_r0_29 hk hin12 (List.mem_cons_of_mem _ (List.mem_append_left _ (List.mem_of_getElem? (i := 0) rfl))) dX12_wideOf_1 ?_
  refine g_iconst (v := 5) hk dX12_wideOf_4 (by decide) ?_
  refine g_aload_n hk dX12_wideOf_5 rfl ?_
  refine gM_i15 (v := (I 15)) hk hin12 (List.mem_cons_of_mem _ (List.mem_append_left _ (List.mem_of_getElem? (i := 1) rfl))) dX12_wideOf_6 rfl ?_
  have f28259 := IvM_f15 hIv
  refine g_imul hk dX12_wideOf_9 ?_
  have h28260 : (5 * (I 15)).toInt = 5 * (I 15).toInt := i32_mul rfl rfl rfl (by omega) (by omega)
  refine g_iload_n hk dX12_wideOf_10 rfl ?_
  refine g_iadd hk dX12_wideOf_11 ?_
  have h28261 : ((5 * (I 15)) + z1).toInt = (5 * (I 15)).toInt + z1.toInt := i32_add rfl rfl rfl (by omega) (by omega)
  refine lM_11 (v := (A 11 ((5 * (I 15)) + z1).toNatClampNeg)) hk (vp_in_iff.mpr ⟨by omega, by omega⟩) rfl dX12_wideOf_12 ?_
  have f28262 := IvM_a11 hIv (((5 * (I 15)) + z1).toNatClampNeg)
  exact g_iret hk hR rfl ⟨rfl, rfl⟩ dX12_wideOf_13
noncomputable def fM12_query (I : Nat → Int32) (A : Nat → Nat → Int32) (L : Nat → Nat → Int64) (z1 : Int32) (z2 : Int32) : Int32 := if fM12_isQuery I A L z1 = 0 then (-1000) else f_lt ((A 11 (5 * (I 15) + z1).toNatClampNeg) - (1 : Int32)) fun y28263 => if fM12_in I A L z2 0 y28263 = 0 then (-1000) else f_lt ((5 : Int32) * (I 15)) fun y28272 => f_lt (y28272 + z1) fun y28273 => f_lt ((16 : Int32) * y28273) fun y28274 => f_lt (y28274 + z2) fun y28275 => (A 12 y28275.toNatClampNeg)
def wo_j146_X12_query : List Cond := [Cond.methodLink RX12 251 yX12_isQuery, Cond.instanceMethod yX12_isQuery, Cond.selects RX12 yX12_isQuery yX12_isQuery, Cond.initialized RX12, Cond.methodLink RX12 254 yX12_wideOf, Cond.instanceMethod yX12_wideOf, Cond.selects RX12 yX12_wideOf yX12_wideOf, Cond.methodLink RX12 244 yX12_in, Cond.static yX12_in, Cond.fieldLink RX12 55 "WarpDeskModel" "queryAt" "[I", Cond.fieldLink RX12 197 "WarpDeskModel" "live" "I"]
def wz_j146_X12_query : List Cond := .code yX12_query cX12_query 3 (some .int) :: (wo_j146_X12_query ++ (wsX120 ++ (wz_j147_X12_isQuery ++ (wz_j148_X12_wideOf ++ (wz_j145_X12_in ++ ([] : List Cond))))))
theorem zg_j146_X12_query : ∀ w ∈ wz_j146_X12_query, goodWord w = true := zg_cons rfl (zg_app (by decide +kernel) (zg_app zgU_wsX120 (zg_app zg_j147_X12_isQuery (zg_app zg_j148_X12_wideOf (zg_app zg_j145_X12_in zg_nil)))))
theorem zi_j146_X12_query : ∀ w ∈ wz_j146_X12_query, w ∈ lw_tbl := zi_cons zw_1662 (zi_app (zi_cons zw_1663 (zi_cons zw_1665 (zi_cons zw_67 (zi_cons zw_115 (zi_cons zw_1667 (zi_cons zw_1669 (zi_cons zw_68 (zi_cons zw_1656 (zi_cons zw_1657 (zi_cons zw_1408 (zi_cons zw_1400 zi_nil))))))))))) (zi_app inX12 (zi_app zi_j147_X12_isQuery (zi_app zi_j148_X12_wideOf (zi_app zi_j145_X12_in zi_nil)))))
set_option maxHeartbeats 4000000 in
set_option maxRecDepth 100000 in
theorem j146_X12_query (l : Launch) (D : va_G) (zt : Nat × Nat × Nat × (Nat → Nat) × (Nat → Nat)) (r : Nat → Nat) (g : Nat → ClassId) (I : Nat → Int32) (A : Nat → Nat → Int32) (L : Nat → Nat → Int64) (z1 : Int32) (z2 : Int32) (hIv : IvM I A) : GM l D zt (tyM g) yX12_query wz_j146_X12_query ({ frames := 2, cells := 0, slots := 0, locals := 43 } : Room) [.ref (r 0), .int z1, .int z2] (wM r g I A L) (fun v _ w' => ∃ y0 : Int32, FE (fM12_query I A L z1 z2) y0 ∧ v = some (.int y0) ∧ w' = wM r g I A L) 0 0 := by
  refine GM.of (cc := cX12_query) (maxL := 3) (ret := (some .int)) (own := RX12) (lv := [(0, .ref (r 0)), (1, .int z1), (2, .int z2)]) (by decide) rfl rfl (Nat.le_of_ble_eq_true rfl) rfl (fun κ sz hk hR hN => ?_)
  have hin12 : ∀ w ∈ u_ws RX12 TX12 55, w ∈ wz_j146_X12_query := fun w h => (List.mem_cons_of_mem _ (List.mem_append_right _ (List.mem_append_left _ h)))
  have hF : FE (fM12_query I A L z1 z2) (fM12_query I A L z1 z2) := FE.rf
  refine g_aload_n hk dX12_query_0 rfl ?_
  refine g_iload_n hk dX12_query_1 rfl ?_
  refine g_callV (n := 1) hk (j147_X12_isQuery l D zt r g I A L z1 hIv) (SP.same _) (fun _ h => h) (gi_V (List.mem_cons_of_mem _ (List.mem_append_left _ (List.mem_of_getElem? (i := 0) rfl))) (List.mem_cons_of_mem _ (List.mem_append_left _ (List.mem_of_getElem? (i := 1) rfl))) (List.mem_cons_of_mem _ (List.mem_append_left _ (List.mem_of_getElem? (i := 2) rfl))) (List.mem_cons_of_mem _ (List.mem_append_left _ (List.mem_of_getElem? (i := 3) rfl))) (gi_sub (fun w h => (List.mem_cons_of_mem _ (List.mem_append_right _ (List.mem_append_right _ (List.mem_append_left _ h))))) zg_j147_X12_isQuery)) rfl rfl rfl (by decide +kernel) ⟨Nat.le_of_ble_eq_true rfl, Nat.le_of_ble_eq_true rfl⟩ 0 rfl rfl rfl rfl (Nat.le_of_ble_eq_true rfl) ⟨Nat.le_of_ble_eq_true rfl, Nat.le_of_ble_eq_true rfl⟩ dX12_query_2 (fun v ty' w' hp hk' => ?_)
  rcases hp with ⟨hC, rfl, rfl⟩ | ⟨c28253, c28254, c28255, c28256, hC, rfl, rfl⟩
  · skip
    replace hF := FE.pos hF hC
    show GW κ 3 0 0 (wM r g I A L) 5 [(0, .ref (r 0)), (1, .int z1), (2, .int z2)] [.int 0]
    refine g_if_eq (tgt := 44) (a := 0) hk dX12_query_5 (by decide) rfl (fun _ => ?_) (fun z9 => absurd (show (0 : Int) = (0 : Int) from by decide) z9)
    refine g_sipush (v := (-1000)) hk dX12_query_44 (by decide) ?_
    exact g_iret hk hR rfl ⟨(-1000), hF, rfl, rfl⟩ dX12_query_47
  · skip
    replace hF := FE.neg hF (fe_ne hC (by decide))
    have f28258 : 0 ≤ (A 11 (5 * (I 15) + z1).toNatClampNeg).toInt ∧ (A 11 (5 * (I 15) + z1).toNatClampNeg).toInt ≤ 16 := IvM_a11 hIv _
    show GW κ 3 0 0 (wM r g I A L) 5 [(0, .ref (r 0)), (1, .int z1), (2, .int z2)] [.int 1]
    refine g_if_eq (tgt := 44) (a := 1) hk dX12_query_5 (by decide) rfl (fun z9 => absurd z9 (show ¬ ((1 : Int) = (0 : Int)) from by decide)) (fun _ => ?_)
    refine g_iload_n hk dX12_query_8 rfl ?_
    refine g_iconst (v := 0) hk dX12_query_9 (by decide) ?_
    refine g_aload_n hk dX12_query_10 rfl ?_
    refine g_iload_n hk dX12_query_11 rfl ?_
    refine g_callV (n := 1) hk (j148_X12_wideOf l D zt r g I A L z1 hIv (by omega) (by omega)) (SP.same _) (fun _ h => h) (gi_V (List.mem_cons_of_mem _ (List.mem_append_left _ (List.mem_of_getElem? (i := 4) rfl))) (List.mem_cons_of_mem _ (List.mem_append_left _ (List.mem_of_getElem? (i := 5) rfl))) (List.mem_cons_of_mem _ (List.mem_append_left _ (List.mem_of_getElem? (i := 6) rfl))) (List.mem_cons_of_mem _ (List.mem_append_left _ (List.mem_of_getElem? (i := 3) rfl))) (gi_sub (fun w h => (List.mem_cons_of_mem _ (List.mem_append_right _ (List.mem_append_right _ (List.mem_append_right _ (List.mem_append_left _ h)))))) zg_j148_X12_wideOf)) rfl rfl rfl (by decide +kernel) ⟨Nat.le_of_ble_eq_true rfl, Nat.le_of_ble_eq_true rfl⟩ 0 rfl rfl rfl rfl (Nat.le_of_ble_eq_true rfl) ⟨Nat.le_of_ble_eq_true rfl, Nat.le_of_ble_eq_true rfl⟩ dX12_query_12 (fun v ty' w' hp hk' => ?_)
    obtain ⟨rfl, rfl⟩ := hp
    show GW κ 3 0 0 (wM r g I A L) 15 [(0, .ref (r 0)), (1, .int z1), (2, .int z2)] [.int (A 11 (5 * (I 15) + z1).toNatClampNeg), .int 0, .int z2]
    refine g_iconst (v := 1) hk dX12_query_15 (by decide) ?_
    refine g_isub hk dX12_query_16 ?_
    refine g_topi (fun y28263 ey28263 => ?_)
    replace hF := FE.lt hF ey28263
    have hy28263 : y28263.toInt = (A 11 (5 * (I 15) + z1).toNatClampNeg).toInt - 1 := i32_sub ey28263 rfl rfl (by omega) (by omega)
    have k28264 : (0 : Int32).toInt = 0 := rfl
    refine g_callS (n := 3) hk (j145_X12_in l D zt r g I A L z2 0 y28263 hIv) (SP.same _) (fun _ h => h) (gi_S (List.mem_cons_of_mem _ (List.mem_append_left _ (List.mem_of_getElem? (i := 7) rfl))) (List.mem_cons_of_mem _ (List.mem_append_left _ (List.mem_of_getElem? (i := 8) rfl))) (List.mem_cons_of_mem _ (List.mem_append_left _ (List.mem_of_getElem? (i := 3) rfl))) (gi_sub (fun w h => (List.mem_cons_of_mem _ (List.mem_append_right _ (List.mem_append_right _ (List.mem_append_right _ (List.mem_append_right _ (List.mem_append_left _ h))))))) zg_j145_X12_in)) rfl rfl rfl (by decide +kernel) ⟨Nat.le_of_ble_eq_true rfl, Nat.le_of_ble_eq_true rfl⟩ rfl rfl (Nat.le_of_ble_eq_true rfl) ⟨Nat.le_of_ble_eq_true rfl, Nat.le_of_ble_eq_true rfl⟩ dX12_query_17 (fun v ty' w' hp hk' => ?_)
    rcases hp with ⟨c28265, hC, rfl, rfl⟩ | ⟨c28267, c28268, hC, rfl, rfl⟩
    · skip
      replace hF := FE.pos hF hC
      have b28270l := Int32.le_toInt z2
      have b28270h := Int32.toInt_lt z2
      show GW κ 3 0 0 (wM r g I A L) 20 [(0, .ref (r 0)), (1, .int z1), (2, .int z2)] [.int 0]
      refine g_if_eq (tgt := 44) (a := 0) hk dX12_query_20 (by decide) rfl (fun _ => ?_) (fun z9 => absurd (show (0 : Int) = (0 : Int) from by decide) z9)
      refine g_sipush (v := (-1000)) hk dX12_query_44 (by decide) ?_
      exact g_iret hk hR rfl ⟨(-1000), hF, rfl, rfl⟩ dX12_query_47
    · skip
      replace hF := FE.neg hF (fe_ne hC (by decide))
      show GW κ 3 0 0 (wM r g I A L) 20 [(0, .ref (r 0)), (1, .int z1), (2, .int z2)] [.int 1]
      refine g_if_eq (tgt := 44) (a := 1) hk dX12_query_20 (by decide) rfl (fun z9 => absurd z9 (show ¬ ((1 : Int) = (0 : Int)) from by decide)) (fun _ => ?_)
      refine g_aload_n hk dX12_query_23 rfl ?_
      refine gM_r0_30 hk hin12 (List.mem_cons_of_mem _ (List.mem_append_left _ (List.mem_of_getElem? (i := 9) rfl))) dX12_query_24 ?_
      refine g_bipush (v := 16) hk dX12_query_27 (by decide) ?_
      refine g_iconst (v := 5) hk dX12_query_29 (by decide) ?_
      refine g_aload_n hk dX12_query_30 rfl ?_
      refine gM_i15 (v := (I 15)) hk hin12 (List.mem_cons_of_mem _ (List.mem_append_left _ (List.mem_of_getElem? (i := 10) rfl))) dX12_query_31 rfl ?_
      have f28271 := IvM_f15 hIv
      refine g_imul hk dX12_query_34 ?_
      refine g_topi (fun y28272 ey28272 => ?_)
      replace hF := FE.lt hF ey28272
      have hy28272 : y28272.toInt = 5 * (I 15).toInt := i32_mul ey28272 rfl rfl (by omega) (by omega)
      refine g_iload_n hk dX12_query_35 rfl ?_
      refine g_iadd hk dX12_query_36 ?_
      refine g_topi (fun y28273 ey28273 => ?_)
      replace hF := FE.lt hF ey28273
      have hy28273 : y28273.toInt = y28272.toInt + z1.toInt := i32_add ey28273 rfl rfl (by omega) (by omega)
      refine g_imul hk dX12_query_37 ?_
      refine g_topi (fun y28274 ey28274 => ?_)
      replace hF := FE.lt hF ey28274
      have hy28274 : y28274.toInt = 16 * y28273.toInt := i32_mul ey28274 rfl rfl (by omega) (by omega)
      refine g_iload_n hk dX12_query_38 rfl ?_
      refine g_iadd hk dX12_query_39 ?_
      refine g_topi (fun y28275 ey28275 => ?_)
      replace hF := FE.lt hF ey28275
      have hy28275 : y28275.toInt = y28274.toInt + z2.toInt := i32_add ey28275 rfl rfl (by omega) (by omega)
      refine lM_12 (v := (A 12 y28275.toNatClampNeg)) hk (vp_in_iff.mpr ⟨by omega, by omega⟩) rfl dX12_query_40 ?_
      refine g_goto (tgt := 47) hk dX12_query_41 (by decide) ?_
      have b28276l := Int32.le_toInt (A 12 y28275.toNatClampNeg)
      have b28276h := Int32.toInt_lt (A 12 y28275.toNatClampNeg)
      exact g_iret hk hR rfl ⟨(A 12 y28275.toNatClampNeg), hF, rfl, rfl⟩ dX12_query_47
noncomputable def fM12_copies (I : Nat → Int32) (A : Nat → Nat → Int32) (L : Nat → Nat → Int64) : Int32 × (Nat → Int32) × (Nat → Nat → Int32) × (Nat → Nat → Int64) := (0, I, (up2 A 18 (cpo (A 17) (A 18) 0 165)), L)
def wo_j151_X12_copies : List Cond := [Cond.fieldLink RX12 73 "WarpDeskModel" "row" "[I", Cond.fieldLink RX12 70 "WarpDeskModel" "now" "[I"]
def wz_j151_X12_copies : List Cond := .code yX12_copies cX12_copies 2 none :: (wo_j151_X12_copies ++ (wsX120 ++ ([] : List Cond)))
theorem zg_j151_X12_copies : ∀ w ∈ wz_j151_X12_copies, goodWord w = true := zg_cons rfl (zg_app (by decide +kernel) (zg_app zgU_wsX120 zg_nil))
theorem zi_j151_X12_copies : ∀ w ∈ wz_j151_X12_copies, w ∈ lw_tbl := zi_cons zw_1682 (zi_app (zi_cons zw_1414 (zi_cons zw_1413 zi_nil)) (zi_app inX12 zi_nil))
set_option maxHeartbeats 4000000 in
set_option maxRecDepth 100000 in
theorem j151_X12_copies (l : Launch) (D : va_G) (zt : Nat × Nat × Nat × (Nat → Nat) × (Nat → Nat)) (r : Nat → Nat) (g : Nat → ClassId) (I : Nat → Int32) (A : Nat → Nat → Int32) (L : Nat → Nat → Int64) (hIv : IvM I A) : GM l D zt (tyM g) yX12_copies wz_j151_X12_copies ({ frames := 0, cells := 0, slots := 0, locals := 0 } : Room) [.ref (r 0)] (wM r g I A L) (fun v _ w' => ∃ (I' : Nat → Int32) (A' : Nat → Nat → Int32) (L' : Nat → Nat → Int64), Md [] I I' ∧ Md [18] A A' ∧ IvM I' A' ∧ ((A' 18 0).toInt = (A 17 0).toInt) ∧ ((A' 18 164).toInt = (A 17 164).toInt) ∧ (L' = L) ∧ FE (fM12_copies I A L) (0, I', A', L') ∧ v = none ∧ w' = wM r g I' A' L') 0 0 := by
  refine GM.of (cc := cX12_copies) (maxL := 2) (ret := none) (own := RX12) (lv := [(0, .ref (r 0))]) (by decide) rfl rfl (Nat.le_of_ble_eq_true rfl) rfl (fun κ sz hk hR hN => ?_)
  have hin12 : ∀ w ∈ u_ws RX12 TX12 55, w ∈ wz_j151_X12_copies := fun w h => (List.mem_cons_of_mem _ (List.mem_append_right _ (List.mem_append_left _ h)))
  have hF : FE (fM12_copies I A L) (fM12_copies I A L) := FE.rf
  refine g_iconst (v := 0) hk dX12_copies_0 (by decide) ?_
  refine g_istore_n (lv' := [(1, .int 0), (0, .ref (r 0))]) hk dX12_copies_1 (by decide) rfl ?_
  have lp28287 : ∀ (n28289 k28288 : Nat), k28288 + n28289 = 165 → GW κ 2 0 0 (wM r g I (up2 A 18 (cpo (A 17) (A 18) 0 k28288)) L) 2 [(1, .int (nI k28288)), (0, .ref (r 0))] [] := by
    intro n28289
    induction n28289 with
    | zero =>
      intro k28288 hk28288
      obtain rfl : k28288 = 165 := by omega
      show GW κ 2 0 0 (wM r g I (up2 A 18 (cpo (A 17) (A 18) 0 165)) L) 2 [(1, .int 165), (0, .ref (r 0))] []
      refine g_iload_n hk dX12_copies_2 rfl ?_
      refine g_sipush (v := 165) hk dX12_copies_3 (by decide) ?_
      refine g_icmp_ge (tgt := 27) (a := 165) (b := 165) hk dX12_copies_6 (by decide) rfl rfl (fun _ => ?_) (fun z9 => absurd (show (165 : Int) ≤ (165 : Int) from by decide) z9)
      have f28292 := IvM_s17_0 hIv
      have f28293 := IvM_s17_164 hIv
      exact g_vret hk hR ⟨I, (up2 A 18 (cpo (A 17) (A 18) 0 165)), L, (show Md [] I I from Md.rf), (show Md [18] A (up2 A 18 (cpo (A 17) (A 18) 0 165)) from (Md.up2 Md.rf rfl)), ⟨(IvM_f1 (I := I) (A := A) hIv), (IvM_f2 (I := I) (A := A) hIv), (IvM_f3 (I := I) (A := A) hIv), (IvM_f4 (I := I) (A := A) hIv), (IvM_f6 (I := I) (A := A) hIv), (IvM_f8 (I := I) (A := A) hIv), (IvM_f15 (I := I) (A := A) hIv), (IvM_f16 (I := I) (A := A) hIv), (IvM_f17 (I := I) (A := A) hIv), (IvM_f18 (I := I) (A := A) hIv), (IvM_f22 (I := I) (A := A) hIv), (IvM_f23 (I := I) (A := A) hIv), (IvM_f24 (I := I) (A := A) hIv), (IvM_a11 (I := I) (A := A) hIv), (IvM_a26 (I := I) (A := A) hIv), (IvM_s8_0 (I := I) (A := A) hIv), (IvM_s8_1 (I := I) (A := A) hIv), (IvM_s10_0 (I := I) (A := A) hIv), (IvM_s10_1 (I := I) (A := A) hIv), (IvM_s17_0 (I := I) (A := A) hIv), (IvM_s17_164 (I := I) (A := A) hIv), (IvM_lv (I := I) (A := A) hIv), (IvM_sd (I := I) (A := A) hIv), (IvM_nq (I := I) (A := A) hIv), (IvM_hr (I := I) (A := A) hIv), (IvM_hh (I := I) (A := A) hIv), trivial⟩, (by rw [show ((up2 A 18 (cpo (A 17) (A 18) 0 165)) 18 0) = (A 17 0) from rfl] <;> omega), (by rw [show ((up2 A 18 (cpo (A 17) (A 18) 0 165)) 18 164) = (A 17 164) from rfl] <;> omega), (show L = L from rfl), hF, rfl, rfl⟩ dX12_copies_27
    | succ n28289 ih28291 =>
      intro k28288 hk28288
      obtain ⟨x28290, ex28290⟩ : ∃ x : Int32, x = nI k28288 := ⟨_, rfl⟩
      have hx28290 : x28290.toInt = (k28288 : Int) := by rw [ex28290]; exact nI_toInt (by omega)
      have cx28290 : x28290.toNatClampNeg = k28288 := cl_nat hx28290
      rw [← ex28290]
      refine g_iload_n hk dX12_copies_2 rfl ?_
      refine g_sipush (v := 165) hk dX12_copies_3 (by decide) ?_
      refine g_icmp_ge (tgt := 27) (a := x28290.toInt) (b := 165) hk dX12_copies_6 (by decide) rfl rfl (fun z9 => absurd z9 (show ¬ (165 ≤ x28290.toInt) from by omega)) (fun _ => ?_)
      refine g_aload_n hk dX12_copies_9 rfl ?_
      refine gM_r0_36 hk hin12 (List.mem_cons_of_mem _ (List.mem_append_left _ (List.mem_of_getElem? (i := 0) rfl))) dX12_copies_10 ?_
      refine g_iload_n hk dX12_copies_13 rfl ?_
      refine g_aload_n hk dX12_copies_14 rfl ?_
      refine gM_r0_35 hk hin12 (List.mem_cons_of_mem _ (List.mem_append_left _ (List.mem_of_getElem? (i := 1) rfl))) dX12_copies_15 ?_
      refine g_iload_n hk dX12_copies_18 rfl ?_
      refine lM_17 (v := (A 17 x28290.toNatClampNeg)) hk (vp_in_iff.mpr ⟨by omega, by omega⟩) rfl dX12_copies_19 ?_
      refine sM_18 (j := x28290.toNatClampNeg) hk (vp_in_iff.mpr ⟨by omega, by omega⟩) rfl dX12_copies_20 ?_
      obtain ⟨y28294, ey28294⟩ : ∃ y : Int32, y = x28290 + Int32.ofInt 1 := ⟨_, rfl⟩
      have hy28294 : y28294.toInt = x28290.toInt + 1 := i32_add ey28294 rfl (by decide) (by omega) (by omega)
      refine g_iinc (v := y28294) (lv' := [(1, .int y28294), (0, .ref (r 0))]) hk 0 dX12_copies_21 rfl ey28294.symm (by decide) rfl ?_
      refine g_goto (tgt := 2) hk dX12_copies_24 (by decide) ?_
      have q28295 := cl_int (y := x28290) (by omega)
      have q28296 := cl_int (y := x28290) (by omega)
      have eW : (up3 (up2 A 18 (cpo (A 17) (A 18) 0 k28288)) 18 (x28290.toNatClampNeg) (A 17 x28290.toNatClampNeg)) = (up2 A 18 (cpo (A 17) (A 18) 0 (k28288 + 1))) := cpo_st (by omega) (show (A 17 x28290.toNatClampNeg) = (A 17 k28288) from by rw [show x28290.toNatClampNeg = k28288 from by omega])
      have fy : y28294 = nI (k28288 + 1) := nI_of_toInt (by omega) (by omega)
      rw [eW, fy]
      exact g_lv (List.forall_mem_cons.mpr ⟨List.mem_of_getElem? (i := 0) rfl, (List.forall_mem_cons.mpr ⟨List.mem_of_getElem? (i := 1) rfl, (fun _ h => absurd h List.not_mem_nil)⟩)⟩) (ih28291 (k28288 + 1) (by omega))
  have lp28287e := lp28287 165 0 (by omega)
  rw [cpo_0] at lp28287e
  exact lp28287e
noncomputable def bM12_records_11 (I : Nat → Int32) (A : Nat → Nat → Int32) : (Int32 → (Nat → Int32) → (Nat → Nat → Int32) → (Nat → Nat → Int64) → (Int32 × (Nat → Int32) × (Nat → Nat → Int32) × (Nat → Nat → Int64))) → Int32 → (Nat → Int32) → (Nat → Nat → Int32) → (Nat → Nat → Int64) → (Int32 × (Nat → Int32) × (Nat → Nat → Int32) × (Nat → Nat → Int64)) := fun kk28374 x28323 I28325 A28325 L28325 => if 6435 ≤ x28323.toInt then f_lt ((I 22) - (1 : Int32)) fun y28377 => f_lt (y28377 + (1 : Int32)) fun y28383 => f_bdM (fM12_keepsRow (upd (upd I28325 22 y28377) 22 y28383) (up2 A28325 22 (cpo (A 17) (A28325 22) (165 * y28377.toNatClampNeg) 165)) L28325) fun _ I28387 A28387 L28387 => (0, I28387, A28387, L28387) else f_lt (x28323 + (165 : Int32)) fun y28394 => f_lt (x28323 + Int32.ofInt 1) fun y28395 => kk28374 y28395 I28325 (up3 A28325 22 (x28323.toNatClampNeg) (A28325 22 y28394.toNatClampNeg)) L28325
noncomputable def fM12_records (I : Nat → Int32) (A : Nat → Nat → Int32) (L : Nat → Nat → Int64) : Int32 × (Nat → Int32) × (Nat → Nat → Int32) × (Nat → Nat → Int64) := if (I 22).toInt ≠ 40 then f_lt ((I 22) + (1 : Int32)) fun y28313 => f_bdM (fM12_keepsRow (upd I 22 y28313) (up2 A 22 (cpo (A 17) (A 22) (165 * (I 22).toNatClampNeg) 165)) L) fun _ I28316 A28316 L28316 => (0, I28316, A28316, L28316) else itr_iIAL dfM (bM12_records_11 I A) FU 0 I A L
def wo_j152_X12_records : List Cond := [Cond.fieldLink RX12 209 "WarpDeskModel" "undos" "I", Cond.methodLink RX12 121 yX12_keepsRow, Cond.instanceMethod yX12_keepsRow, Cond.selects RX12 yX12_keepsRow yX12_keepsRow, Cond.initialized RX12, Cond.fieldLink RX12 85 "WarpDeskModel" "history" "[I", Cond.fieldLink RX12 70 "WarpDeskModel" "now" "[I"]
def wz_j152_X12_records : List Cond := .code yX12_records cX12_records 2 none :: (wo_j152_X12_records ++ (wsX120 ++ (wz_j139_X12_keepsRow ++ ([] : List Cond))))
theorem zg_j152_X12_records : ∀ w ∈ wz_j152_X12_records, goodWord w = true := zg_cons rfl (zg_app (by decide +kernel) (zg_app zgU_wsX120 (zg_app zg_j139_X12_keepsRow zg_nil)))
theorem zi_j152_X12_records : ∀ w ∈ wz_j152_X12_records, w ∈ lw_tbl := zi_cons zw_1686 (zi_app (zi_cons zw_1422 (zi_cons zw_1376 (zi_cons zw_1378 (zi_cons zw_46 (zi_cons zw_115 (zi_cons zw_1423 (zi_cons zw_1413 zi_nil))))))) (zi_app inX12 (zi_app zi_j139_X12_keepsRow zi_nil)))
set_option maxHeartbeats 4000000 in
set_option maxRecDepth 100000 in
theorem j152_X12_records (l : Launch) (D : va_G) (zt : Nat × Nat × Nat × (Nat → Nat) × (Nat → Nat)) (r : Nat → Nat) (g : Nat → ClassId) (I : Nat → Int32) (A : Nat → Nat → Int32) (L : Nat → Nat → Int64) (hIv : IvM I A) (hp0 : 0 ≤ (A 18 0).toInt) (hp1 : (A 18 0).toInt ≤ 160) (hp2 : 1 ≤ (A 18 164).toInt) : GM l D zt (tyM g) yX12_records wz_j152_X12_records ({ frames := 1, cells := 0, slots := 0, locals := 21 } : Room) [.ref (r 0)] (wM r g I A L) (fun v _ w' => ∃ (I' : Nat → Int32) (A' : Nat → Nat → Int32) (L' : Nat → Nat → Int64), Md [22] I I' ∧ Md [17, 22] A A' ∧ IvM I' A' ∧ (L' = L) ∧ FE (fM12_records I A L) (0, I', A', L') ∧ v = none ∧ w' = wM r g I' A' L') 0 0 := by
  refine GM.of (cc := cX12_records) (maxL := 2) (ret := none) (own := RX12) (lv := [(0, .ref (r 0))]) (by decide) rfl rfl (Nat.le_of_ble_eq_true rfl) rfl (fun κ sz hk hR hN => ?_)
  have hin12 : ∀ w ∈ u_ws RX12 TX12 55, w ∈ wz_j152_X12_records := fun w h => (List.mem_cons_of_mem _ (List.mem_append_right _ (List.mem_append_left _ h)))
  have hF : FE (fM12_records I A L) (fM12_records I A L) := FE.rf
  refine g_aload_n hk dX12_records_0 rfl ?_
  refine gM_i22 (v := (I 22)) hk hin12 (List.mem_cons_of_mem _ (List.mem_append_left _ (List.mem_of_getElem? (i := 0) rfl))) dX12_records_1 rfl ?_
  have f28306 := IvM_f22 hIv
  refine g_bipush (v := 40) hk dX12_records_4 (by decide) ?_
  refine g_icmp_ne (tgt := 50) (a := (I 22).toInt) (b := 40) hk dX12_records_6 (by decide) rfl rfl (fun c28307 => ?_) (fun c28307 => ?_)
  · skip
    replace hF := FE.pos hF c28307
    refine g_iconst (v := 0) hk dX12_records_50 (by decide) ?_
    refine g_istore_n (lv' := [(1, .int 0), (0, .ref (r 0))]) hk dX12_records_51 (by decide) rfl ?_
    have lp28308 : ∀ (n28310 k28309 : Nat), k28309 + n28310 = 165 → GW κ 2 0 0 (wM r g I (up2 A 22 (cpo (A 17) (A 22) (165 * (I 22).toNatClampNeg) k28309)) L) 52 [(1, .int (nI k28309)), (0, .ref (r 0))] [] := by
      intro n28310
      induction n28310 with
      | zero =>
        intro k28309 hk28309
        obtain rfl : k28309 = 165 := by omega
        show GW κ 2 0 0 (wM r g I (up2 A 22 (cpo (A 17) (A 22) (165 * (I 22).toNatClampNeg) 165)) L) 52 [(1, .int 165), (0, .ref (r 0))] []
        refine g_iload_n hk dX12_records_52 rfl ?_
        refine g_sipush (v := 165) hk dX12_records_53 (by decide) ?_
        refine g_icmp_ge (tgt := 86) (a := 165) (b := 165) hk dX12_records_56 (by decide) rfl rfl (fun _ => ?_) (fun z9 => absurd (show (165 : Int) ≤ (165 : Int) from by decide) z9)
        refine g_aload_n hk dX12_records_86 rfl ?_
        refine g_dup hk dX12_records_87 rfl ?_
        refine gM_i22 (v := (I 22)) hk hin12 (List.mem_cons_of_mem _ (List.mem_append_left _ (List.mem_of_getElem? (i := 0) rfl))) dX12_records_88 rfl ?_
        refine g_iconst (v := 1) hk dX12_records_91 (by decide) ?_
        refine g_iadd hk dX12_records_92 ?_
        refine g_topi (fun y28313 ey28313 => ?_)
        replace hF := FE.lt hF ey28313
        have hy28313 : y28313.toInt = (I 22).toInt + 1 := i32_add ey28313 rfl rfl (by omega) (by omega)
        refine pM_i22 hk hin12 (List.mem_cons_of_mem _ (List.mem_append_left _ (List.mem_of_getElem? (i := 0) rfl))) dX12_records_93 ?_
        refine g_aload_n hk dX12_records_96 rfl ?_
        have q28314 := cl_int (y := (I 22)) (by omega)
        refine g_callV (n := 0) hk (j139_X12_keepsRow l D zt r g (upd I 22 y28313) (up2 A 22 (cpo (A 17) (A 22) (165 * (I 22).toNatClampNeg) 165)) L  ⟨(IvM_f1 (I := I) (A := A) hIv), (IvM_f2 (I := I) (A := A) hIv), (IvM_f3 (I := I) (A := A) hIv), (IvM_f4 (I := I) (A := A) hIv), (IvM_f6 (I := I) (A := A) hIv), (IvM_f8 (I := I) (A := A) hIv), (IvM_f15 (I := I) (A := A) hIv), (IvM_f16 (I := I) (A := A) hIv), (IvM_f17 (I := I) (A := A) hIv), (IvM_f18 (I := I) (A := A) hIv), (show 0 ≤ y28313.toInt ∧ y28313.toInt ≤ 40 from ⟨by omega, by omega⟩), (IvM_f23 (I := I) (A := A) hIv), (IvM_f24 (I := I) (A := A) hIv), (IvM_a11 (I := I) (A := A) hIv), (IvM_a26 (I := I) (A := A) hIv), (IvM_s8_0 (I := I) (A := A) hIv), (IvM_s8_1 (I := I) (A := A) hIv), (IvM_s10_0 (I := I) (A := A) hIv), (IvM_s10_1 (I := I) (A := A) hIv), (IvM_s17_0 (I := I) (A := A) hIv), (IvM_s17_164 (I := I) (A := A) hIv), (IvM_lv (I := I) (A := A) hIv), (IvM_sd (I := I) (A := A) hIv), (IvM_nq (I := I) (A := A) hIv), (hr_cpo (n := (I 22)) (n2 := y28313) (fun j hj => (IvM_hr (I := I) (A := A) hIv) j (by omega)) (by omega) (by omega) ⟨(IvM_s17_0 (I := I) (A := A) hIv), (IvM_s17_164 (I := I) (A := A) hIv).1⟩), (IvM_hh (I := I) (A := A) hIv), trivial⟩ (by first | (rw [show ((up2 A 22 (cpo (A 17) (A 22) (165 * (I 22).toNatClampNeg) 165)) 18 0) = (A 18 0) from rfl] <;> omega) | omega) (by first | (rw [show ((up2 A 22 (cpo (A 17) (A 22) (165 * (I 22).toNatClampNeg) 165)) 18 0) = (A 18 0) from rfl] <;> omega) | omega) (by first | (rw [show ((up2 A 22 (cpo (A 17) (A 22) (165 * (I 22).toNatClampNeg) 165)) 18 164) = (A 18 164) from rfl] <;> omega) | omega)) (SP.same _) (fun _ h => h) (gi_V (List.mem_cons_of_mem _ (List.mem_append_left _ (List.mem_of_getElem? (i := 1) rfl))) (List.mem_cons_of_mem _ (List.mem_append_left _ (List.mem_of_getElem? (i := 2) rfl))) (List.mem_cons_of_mem _ (List.mem_append_left _ (List.mem_of_getElem? (i := 3) rfl))) (List.mem_cons_of_mem _ (List.mem_append_left _ (List.mem_of_getElem? (i := 4) rfl))) (gi_sub (fun w h => (List.mem_cons_of_mem _ (List.mem_append_right _ (List.mem_append_right _ (List.mem_append_left _ h))))) zg_j139_X12_keepsRow)) rfl rfl rfl (by decide +kernel) ⟨Nat.le_of_ble_eq_true rfl, Nat.le_of_ble_eq_true rfl⟩ 0 rfl rfl rfl rfl (Nat.le_of_ble_eq_true rfl) ⟨Nat.le_of_ble_eq_true rfl, Nat.le_of_ble_eq_true rfl⟩ dX12_records_97 (fun v ty' w' hp hk' => ?_)
        obtain ⟨I28316, A28316, L28316, hI28316, hA28316, hV28316, hL28316, hC, rfl, rfl⟩ := hp
        replace hF := FE.bdM hF hC
        show GW κ 2 0 0 (wM r g I28316 A28316 L28316) 100 [(1, .int 165), (0, .ref (r 0))] []
        exact g_vret hk hR ⟨I28316, A28316, L28316, (show Md [22] I I28316 from (Md.tr (Md.up Md.rf rfl) hI28316 rfl)), (show Md [17, 22] A A28316 from (Md.tr (Md.up2 Md.rf rfl) hA28316 rfl)), hV28316, (show L28316 = L from hL28316), hF, rfl, rfl⟩ dX12_records_100
      | succ n28310 ih28312 =>
        intro k28309 hk28309
        obtain ⟨x28311, ex28311⟩ : ∃ x : Int32, x = nI k28309 := ⟨_, rfl⟩
        have hx28311 : x28311.toInt = (k28309 : Int) := by rw [ex28311]; exact nI_toInt (by omega)
        have cx28311 : x28311.toNatClampNeg = k28309 := cl_nat hx28311
        rw [← ex28311]
        have q28317 := cl_int (y := (I 22)) (by omega)
        refine g_iload_n hk dX12_records_52 rfl ?_
        refine g_sipush (v := 165) hk dX12_records_53 (by decide) ?_
        refine g_icmp_ge (tgt := 86) (a := x28311.toInt) (b := 165) hk dX12_records_56 (by decide) rfl rfl (fun z9 => absurd z9 (show ¬ (165 ≤ x28311.toInt) from by omega)) (fun _ => ?_)
        refine g_aload_n hk dX12_records_59 rfl ?_
        refine gM_r0_45 hk hin12 (List.mem_cons_of_mem _ (List.mem_append_left _ (List.mem_of_getElem? (i := 5) rfl))) dX12_records_60 ?_
        refine g_sipush (v := 165) hk dX12_records_63 (by decide) ?_
        refine g_aload_n hk dX12_records_66 rfl ?_
        refine gM_i22 (v := (I 22)) hk hin12 (List.mem_cons_of_mem _ (List.mem_append_left _ (List.mem_of_getElem? (i := 0) rfl))) dX12_records_67 rfl ?_
        refine g_imul hk dX12_records_70 ?_
        refine g_topi (fun y28318 ey28318 => ?_)
        have hy28318 : y28318.toInt = 165 * (I 22).toInt := i32_mul ey28318 rfl rfl (by omega) (by omega)
        refine g_iload_n hk dX12_records_71 rfl ?_
        refine g_iadd hk dX12_records_72 ?_
        refine g_topi (fun y28319 ey28319 => ?_)
        have hy28319 : y28319.toInt = y28318.toInt + x28311.toInt := i32_add ey28319 rfl rfl (by omega) (by omega)
        refine g_aload_n hk dX12_records_73 rfl ?_
        refine gM_r0_35 hk hin12 (List.mem_cons_of_mem _ (List.mem_append_left _ (List.mem_of_getElem? (i := 6) rfl))) dX12_records_74 ?_
        refine g_iload_n hk dX12_records_77 rfl ?_
        refine lM_17 (v := (A 17 x28311.toNatClampNeg)) hk (vp_in_iff.mpr ⟨by omega, by omega⟩) rfl dX12_records_78 ?_
        refine sM_22 (j := y28319.toNatClampNeg) hk (vp_in_iff.mpr ⟨by omega, by omega⟩) rfl dX12_records_79 ?_
        obtain ⟨y28320, ey28320⟩ : ∃ y : Int32, y = x28311 + Int32.ofInt 1 := ⟨_, rfl⟩
        have hy28320 : y28320.toInt = x28311.toInt + 1 := i32_add ey28320 rfl (by decide) (by omega) (by omega)
        refine g_iinc (v := y28320) (lv' := [(1, .int y28320), (0, .ref (r 0))]) hk 0 dX12_records_80 rfl ey28320.symm (by decide) rfl ?_
        refine g_goto (tgt := 52) hk dX12_records_83 (by decide) ?_
        have q28321 := cl_int (y := x28311) (by omega)
        have q28322 := cl_int (y := y28319) (by omega)
        have eW : (up3 (up2 A 22 (cpo (A 17) (A 22) (165 * (I 22).toNatClampNeg) k28309)) 22 (y28319.toNatClampNeg) (A 17 x28311.toNatClampNeg)) = (up2 A 22 (cpo (A 17) (A 22) (165 * (I 22).toNatClampNeg) (k28309 + 1))) := cpo_st (by omega) (show (A 17 x28311.toNatClampNeg) = (A 17 k28309) from by rw [show x28311.toNatClampNeg = k28309 from by omega])
        have fy : y28320 = nI (k28309 + 1) := nI_of_toInt (by omega) (by omega)
        rw [eW, fy]
        exact g_lv (List.forall_mem_cons.mpr ⟨List.mem_of_getElem? (i := 0) rfl, (List.forall_mem_cons.mpr ⟨List.mem_of_getElem? (i := 1) rfl, (fun _ h => absurd h List.not_mem_nil)⟩)⟩) (ih28312 (k28309 + 1) (by omega))
    have lp28308e := lp28308 165 0 (by omega)
    rw [cpo_0] at lp28308e
    exact lp28308e
  · skip
    replace hF := FE.neg hF c28307
    refine g_iconst (v := 0) hk dX12_records_9 (by decide) ?_
    refine g_istore_n (lv' := [(1, .int 0), (0, .ref (r 0))]) hk dX12_records_10 (by decide) rfl ?_
    have lp28371 : ∀ (n28372 : Nat) (x28323 : Int32) (I28325 : Nat → Int32) (A28325 : Nat → Nat → Int32) (L28325 : Nat → Nat → Int64), (Md [] I I28325) → (Md [22] A A28325) → (IvM I28325 A28325) → (L28325 = L) → (0 ≤ x28323.toInt) → (x28323.toInt ≤ 6435) → (6436 - x28323.toInt < (n28372 : Int)) → (0 < n28372) → (FE (fM12_records I A L) (itr_iIAL dfM (bM12_records_11 I A) n28372 x28323 I28325 A28325 L28325)) → GW κ 2 0 0 (wM r g I28325 A28325 L28325) 11 [(1, .int x28323), (0, .ref (r 0))] [] := by
      intro n28372
      induction n28372 with
      | zero =>
        intro x28323 I28325 A28325 L28325 hI28325 hA28325 hV28325 hL28325 h28369 h28370 m28373 m28373z hF
        exact absurd m28373z (Nat.lt_irrefl 0)
      | succ n28372 ih28375 =>
        intro x28323 I28325 A28325 L28325 hI28325 hA28325 hV28325 hL28325 h28369 h28370 m28373 m28373z hF
        replace hF := FE.itr_iIAL hF
        refine g_iload_n hk dX12_records_11 rfl ?_
        refine g_sipush (v := 6435) hk dX12_records_12 (by decide) ?_
        refine g_icmp_ge (tgt := 40) (a := x28323.toInt) (b := 6435) hk dX12_records_15 (by decide) rfl rfl (fun c28376 => ?_) (fun c28376 => ?_)
        · skip
          replace hF := FE.pos hF c28376
          refine g_aload_n hk dX12_records_40 rfl ?_
          refine g_dup hk dX12_records_41 rfl ?_
          refine gM_i22 (v := (I 22)) hk hin12 (List.mem_cons_of_mem _ (List.mem_append_left _ (List.mem_of_getElem? (i := 0) rfl))) dX12_records_42 (hI28325 22 rfl) ?_
          refine g_iconst (v := 1) hk dX12_records_45 (by decide) ?_
          refine g_isub hk dX12_records_46 ?_
          refine g_topi (fun y28377 ey28377 => ?_)
          replace hF := FE.lt hF ey28377
          have hy28377 : y28377.toInt = (I 22).toInt - 1 := i32_sub ey28377 rfl rfl (by omega) (by omega)
          refine pM_i22 hk hin12 (List.mem_cons_of_mem _ (List.mem_append_left _ (List.mem_of_getElem? (i := 0) rfl))) dX12_records_47 ?_
          refine g_iconst (v := 0) hk dX12_records_50 (by decide) ?_
          refine g_istore_n (lv' := [(1, .int 0), (0, .ref (r 0))]) hk dX12_records_51 (by decide) rfl ?_
          have lp28378 : ∀ (n28380 k28379 : Nat), k28379 + n28380 = 165 → GW κ 2 0 0 (wM r g (upd I28325 22 y28377) (up2 A28325 22 (cpo (A 17) (A28325 22) (165 * y28377.toNatClampNeg) k28379)) L28325) 52 [(1, .int (nI k28379)), (0, .ref (r 0))] [] := by
            intro n28380
            induction n28380 with
            | zero =>
              intro k28379 hk28379
              obtain rfl : k28379 = 165 := by omega
              show GW κ 2 0 0 (wM r g (upd I28325 22 y28377) (up2 A28325 22 (cpo (A 17) (A28325 22) (165 * y28377.toNatClampNeg) 165)) L28325) 52 [(1, .int 165), (0, .ref (r 0))] []
              refine g_iload_n hk dX12_records_52 rfl ?_
              refine g_sipush (v := 165) hk dX12_records_53 (by decide) ?_
              refine g_icmp_ge (tgt := 86) (a := 165) (b := 165) hk dX12_records_56 (by decide) rfl rfl (fun _ => ?_) (fun z9 => absurd (show (165 : Int) ≤ (165 : Int) from by decide) z9)
              refine g_aload_n hk dX12_records_86 rfl ?_
              refine g_dup hk dX12_records_87 rfl ?_
              refine gM_i22 (v := y28377) hk hin12 (List.mem_cons_of_mem _ (List.mem_append_left _ (List.mem_of_getElem? (i := 0) rfl))) dX12_records_88 rfl ?_
              refine g_iconst (v := 1) hk dX12_records_91 (by decide) ?_
              refine g_iadd hk dX12_records_92 ?_
              refine g_topi (fun y28383 ey28383 => ?_)
              replace hF := FE.lt hF ey28383
              have hy28383 : y28383.toInt = y28377.toInt + 1 := i32_add ey28383 rfl rfl (by omega) (by omega)
              refine pM_i22 hk hin12 (List.mem_cons_of_mem _ (List.mem_append_left _ (List.mem_of_getElem? (i := 0) rfl))) dX12_records_93 ?_
              refine g_aload_n hk dX12_records_96 rfl ?_
              have g28384 : (I28325 22).toInt = (I 22).toInt := by rw [show (I28325 22) = (I 22) from (hI28325 22 rfl)]
              have q28385 := cl_int (y := y28377) (by omega)
              refine g_callV (n := 0) hk (j139_X12_keepsRow l D zt r g (upd (upd I28325 22 y28377) 22 y28383) (up2 A28325 22 (cpo (A 17) (A28325 22) (165 * y28377.toNatClampNeg) 165)) L28325  ⟨(IvM_f1 (I := I28325) (A := A28325) hV28325), (IvM_f2 (I := I28325) (A := A28325) hV28325), (IvM_f3 (I := I28325) (A := A28325) hV28325), (IvM_f4 (I := I28325) (A := A28325) hV28325), (IvM_f6 (I := I28325) (A := A28325) hV28325), (IvM_f8 (I := I28325) (A := A28325) hV28325), (IvM_f15 (I := I28325) (A := A28325) hV28325), (IvM_f16 (I := I28325) (A := A28325) hV28325), (IvM_f17 (I := I28325) (A := A28325) hV28325), (IvM_f18 (I := I28325) (A := A28325) hV28325), (show 0 ≤ y28383.toInt ∧ y28383.toInt ≤ 40 from ⟨by omega, by omega⟩), (IvM_f23 (I := I28325) (A := A28325) hV28325), (IvM_f24 (I := I28325) (A := A28325) hV28325), (IvM_a11 (I := I28325) (A := A28325) hV28325), (IvM_a26 (I := I28325) (A := A28325) hV28325), (IvM_s8_0 (I := I28325) (A := A28325) hV28325), (IvM_s8_1 (I := I28325) (A := A28325) hV28325), (IvM_s10_0 (I := I28325) (A := A28325) hV28325), (IvM_s10_1 (I := I28325) (A := A28325) hV28325), (IvM_s17_0 (I := I28325) (A := A28325) hV28325), (IvM_s17_164 (I := I28325) (A := A28325) hV28325), (IvM_lv (I := I28325) (A := A28325) hV28325), (IvM_sd (I := I28325) (A := A28325) hV28325), (IvM_nq (I := I28325) (A := A28325) hV28325), (hr_cpo (n := y28377) (n2 := y28383) (fun j hj => (IvM_hr (I := I28325) (A := A28325) hV28325) j (by omega)) (by omega) (by omega) ⟨(IvM_s17_0 (I := I) (A := A) hIv), (IvM_s17_164 (I := I) (A := A) hIv).1⟩), (IvM_hh (I := I28325) (A := A28325) hV28325), trivial⟩ (by first | (rw [show ((up2 A28325 22 (cpo (A 17) (A28325 22) (165 * y28377.toNatClampNeg) 165)) 18 0) = (A 18 0) from (congrFun (hA28325 18 rfl) _)] <;> omega) | omega) (by first | (rw [show ((up2 A28325 22 (cpo (A 17) (A28325 22) (165 * y28377.toNatClampNeg) 165)) 18 0) = (A 18 0) from (congrFun (hA28325 18 rfl) _)] <;> omega) | omega) (by first | (rw [show ((up2 A28325 22 (cpo (A 17) (A28325 22) (165 * y28377.toNatClampNeg) 165)) 18 164) = (A 18 164) from (congrFun (hA28325 18 rfl) _)] <;> omega) | omega)) (SP.same _) (fun _ h => h) (gi_V (List.mem_cons_of_mem _ (List.mem_append_left _ (List.mem_of_getElem? (i := 1) rfl))) (List.mem_cons_of_mem _ (List.mem_append_left _ (List.mem_of_getElem? (i := 2) rfl))) (List.mem_cons_of_mem _ (List.mem_append_left _ (List.mem_of_getElem? (i := 3) rfl))) (List.mem_cons_of_mem _ (List.mem_append_left _ (List.mem_of_getElem? (i := 4) rfl))) (gi_sub (fun w h => (List.mem_cons_of_mem _ (List.mem_append_right _ (List.mem_append_right _ (List.mem_append_left _ h))))) zg_j139_X12_keepsRow)) rfl rfl rfl (by decide +kernel) ⟨Nat.le_of_ble_eq_true rfl, Nat.le_of_ble_eq_true rfl⟩ 0 rfl rfl rfl rfl (Nat.le_of_ble_eq_true rfl) ⟨Nat.le_of_ble_eq_true rfl, Nat.le_of_ble_eq_true rfl⟩ dX12_records_97 (fun v ty' w' hp hk' => ?_)
              obtain ⟨I28387, A28387, L28387, hI28387, hA28387, hV28387, hL28387, hC, rfl, rfl⟩ := hp
              replace hF := FE.bdM hF hC
              show GW κ 2 0 0 (wM r g I28387 A28387 L28387) 100 [(1, .int 165), (0, .ref (r 0))] []
              exact g_vret hk hR ⟨I28387, A28387, L28387, (show Md [22] I I28387 from (Md.tr (Md.up (Md.up (Md.tr Md.rf hI28325 rfl) rfl) rfl) hI28387 rfl)), (show Md [17, 22] A A28387 from (Md.tr (Md.up2 (Md.tr Md.rf hA28325 rfl) rfl) hA28387 rfl)), hV28387, (show L28387 = L from (hL28387.trans hL28325)), hF, rfl, rfl⟩ dX12_records_100
            | succ n28380 ih28382 =>
              intro k28379 hk28379
              obtain ⟨x28381, ex28381⟩ : ∃ x : Int32, x = nI k28379 := ⟨_, rfl⟩
              have hx28381 : x28381.toInt = (k28379 : Int) := by rw [ex28381]; exact nI_toInt (by omega)
              have cx28381 : x28381.toNatClampNeg = k28379 := cl_nat hx28381
              rw [← ex28381]
              have q28388 := cl_int (y := y28377) (by omega)
              refine g_iload_n hk dX12_records_52 rfl ?_
              refine g_sipush (v := 165) hk dX12_records_53 (by decide) ?_
              refine g_icmp_ge (tgt := 86) (a := x28381.toInt) (b := 165) hk dX12_records_56 (by decide) rfl rfl (fun z9 => absurd z9 (show ¬ (165 ≤ x28381.toInt) from by omega)) (fun _ => ?_)
              refine g_aload_n hk dX12_records_59 rfl ?_
              refine gM_r0_45 hk hin12 (List.mem_cons_of_mem _ (List.mem_append_left _ (List.mem_of_getElem? (i := 5) rfl))) dX12_records_60 ?_
              refine g_sipush (v := 165) hk dX12_records_63 (by decide) ?_
              refine g_aload_n hk dX12_records_66 rfl ?_
              refine gM_i22 (v := y28377) hk hin12 (List.mem_cons_of_mem _ (List.mem_append_left _ (List.mem_of_getElem? (i := 0) rfl))) dX12_records_67 rfl ?_
              refine g_imul hk dX12_records_70 ?_
              refine g_topi (fun y28389 ey28389 => ?_)
              have hy28389 : y28389.toInt = 165 * y28377.toInt := i32_mul ey28389 rfl rfl (by omega) (by omega)
              refine g_iload_n hk dX12_records_71 rfl ?_
              refine g_iadd hk dX12_records_72 ?_
              refine g_topi (fun y28390 ey28390 => ?_)
              have hy28390 : y28390.toInt = y28389.toInt + x28381.toInt := i32_add ey28390 rfl rfl (by omega) (by omega)
              refine g_aload_n hk dX12_records_73 rfl ?_
              refine gM_r0_35 hk hin12 (List.mem_cons_of_mem _ (List.mem_append_left _ (List.mem_of_getElem? (i := 6) rfl))) dX12_records_74 ?_
              refine g_iload_n hk dX12_records_77 rfl ?_
              refine lM_17 (v := (A 17 x28381.toNatClampNeg)) hk (vp_in_iff.mpr ⟨by omega, by omega⟩) (congrFun (hA28325 17 rfl) _) dX12_records_78 ?_
              refine sM_22 (j := y28390.toNatClampNeg) hk (vp_in_iff.mpr ⟨by omega, by omega⟩) rfl dX12_records_79 ?_
              obtain ⟨y28391, ey28391⟩ : ∃ y : Int32, y = x28381 + Int32.ofInt 1 := ⟨_, rfl⟩
              have hy28391 : y28391.toInt = x28381.toInt + 1 := i32_add ey28391 rfl (by decide) (by omega) (by omega)
              refine g_iinc (v := y28391) (lv' := [(1, .int y28391), (0, .ref (r 0))]) hk 0 dX12_records_80 rfl ey28391.symm (by decide) rfl ?_
              refine g_goto (tgt := 52) hk dX12_records_83 (by decide) ?_
              have q28392 := cl_int (y := x28381) (by omega)
              have q28393 := cl_int (y := y28390) (by omega)
              have eW : (up3 (up2 A28325 22 (cpo (A 17) (A28325 22) (165 * y28377.toNatClampNeg) k28379)) 22 (y28390.toNatClampNeg) (A 17 x28381.toNatClampNeg)) = (up2 A28325 22 (cpo (A 17) (A28325 22) (165 * y28377.toNatClampNeg) (k28379 + 1))) := cpo_st (by omega) (show (A 17 x28381.toNatClampNeg) = (A 17 k28379) from by rw [show x28381.toNatClampNeg = k28379 from by omega])
              have fy : y28391 = nI (k28379 + 1) := nI_of_toInt (by omega) (by omega)
              rw [eW, fy]
              exact g_lv (List.forall_mem_cons.mpr ⟨List.mem_of_getElem? (i := 0) rfl, (List.forall_mem_cons.mpr ⟨List.mem_of_getElem? (i := 1) rfl, (fun _ h => absurd h List.not_mem_nil)⟩)⟩) (ih28382 (k28379 + 1) (by omega))
          have lp28378e := lp28378 165 0 (by omega)
          rw [cpo_0] at lp28378e
          exact lp28378e
        · skip
          replace hF := FE.neg hF c28376
          refine g_aload_n hk dX12_records_18 rfl ?_
          refine gM_r0_45 hk hin12 (List.mem_cons_of_mem _ (List.mem_append_left _ (List.mem_of_getElem? (i := 5) rfl))) dX12_records_19 ?_
          refine g_iload_n hk dX12_records_22 rfl ?_
          refine g_aload_n hk dX12_records_23 rfl ?_
          refine gM_r0_45 hk hin12 (List.mem_cons_of_mem _ (List.mem_append_left _ (List.mem_of_getElem? (i := 5) rfl))) dX12_records_24 ?_
          refine g_iload_n hk dX12_records_27 rfl ?_
          refine g_sipush (v := 165) hk dX12_records_28 (by decide) ?_
          refine g_iadd hk dX12_records_31 ?_
          refine g_topi (fun y28394 ey28394 => ?_)
          replace hF := FE.lt hF ey28394
          have hy28394 : y28394.toInt = x28323.toInt + 165 := i32_add ey28394 rfl rfl (by omega) (by omega)
          refine lM_22 (v := (A28325 22 y28394.toNatClampNeg)) hk (vp_in_iff.mpr ⟨by omega, by omega⟩) rfl dX12_records_32 ?_
          refine sM_22 (j := x28323.toNatClampNeg) hk (vp_in_iff.mpr ⟨by omega, by omega⟩) rfl dX12_records_33 ?_
          obtain ⟨y28395, ey28395⟩ : ∃ y : Int32, y = x28323 + Int32.ofInt 1 := ⟨_, rfl⟩
          replace hF := FE.lt hF ey28395
          have hy28395 : y28395.toInt = x28323.toInt + 1 := i32_add ey28395 rfl (by decide) (by omega) (by omega)
          refine g_iinc (v := y28395) (lv' := [(1, .int y28395), (0, .ref (r 0))]) hk 0 dX12_records_34 rfl ey28395.symm (by decide) rfl ?_
          refine g_goto (tgt := 11) hk dX12_records_37 (by decide) ?_
          have g28396 : (I28325 22).toInt = (I 22).toInt := by rw [show (I28325 22) = (I 22) from (hI28325 22 rfl)]
          have q28397 := cl_int (y := x28323) (by omega)
          have q28398 := cl_int (y := y28394) (by omega)
          exact g_lv (List.forall_mem_cons.mpr ⟨List.mem_of_getElem? (i := 0) rfl, (List.forall_mem_cons.mpr ⟨List.mem_of_getElem? (i := 1) rfl, (fun _ h => absurd h List.not_mem_nil)⟩)⟩) (ih28375 y28395 I28325 (up3 A28325 22 (x28323.toNatClampNeg) (A28325 22 y28394.toNatClampNeg)) L28325 (show Md [] I I28325 from Md.tr hI28325 (show Md [] I28325 I28325 from Md.rf) rfl) (show Md [22] A (up3 A28325 22 (x28323.toNatClampNeg) (A28325 22 y28394.toNatClampNeg)) from Md.tr hA28325 (show Md [22] A28325 (up3 A28325 22 (x28323.toNatClampNeg) (A28325 22 y28394.toNatClampNeg)) from (Md.up3 Md.rf rfl)) rfl) ⟨(IvM_f1 (I := I28325) (A := A28325) hV28325), (IvM_f2 (I := I28325) (A := A28325) hV28325), (IvM_f3 (I := I28325) (A := A28325) hV28325), (IvM_f4 (I := I28325) (A := A28325) hV28325), (IvM_f6 (I := I28325) (A := A28325) hV28325), (IvM_f8 (I := I28325) (A := A28325) hV28325), (IvM_f15 (I := I28325) (A := A28325) hV28325), (IvM_f16 (I := I28325) (A := A28325) hV28325), (IvM_f17 (I := I28325) (A := A28325) hV28325), (IvM_f18 (I := I28325) (A := A28325) hV28325), (IvM_f22 (I := I28325) (A := A28325) hV28325), (IvM_f23 (I := I28325) (A := A28325) hV28325), (IvM_f24 (I := I28325) (A := A28325) hV28325), (IvM_a11 (I := I28325) (A := A28325) hV28325), (IvM_a26 (I := I28325) (A := A28325) hV28325), (IvM_s8_0 (I := I28325) (A := A28325) hV28325), (IvM_s8_1 (I := I28325) (A := A28325) hV28325), (IvM_s10_0 (I := I28325) (A := A28325) hV28325), (IvM_s10_1 (I := I28325) (A := A28325) hV28325), (IvM_s17_0 (I := I28325) (A := A28325) hV28325), (IvM_s17_164 (I := I28325) (A := A28325) hV28325), (IvM_lv (I := I28325) (A := A28325) hV28325), (IvM_sd (I := I28325) (A := A28325) hV28325), (IvM_nq (I := I28325) (A := A28325) hV28325), (hr_shift (IvM_hr (I := I28325) (A := A28325) hV28325) (by omega) (by omega)), (IvM_hh (I := I28325) (A := A28325) hV28325), trivial⟩ (show L28325 = L from hL28325) (by omega) (by omega) (by omega) (by omega) hF)
    have k28399 : (0 : Int32).toInt = 0 := rfl
    have b28401 := Int32.le_toInt (0 : Int32)
    have b28402 := Int32.toInt_lt (0 : Int32)
    have n28400a : 6436 - (0 : Int32).toInt < (FU : Int) := by have := FU_eq; omega
    have n28400b : 0 < FU := by have := FU_eq; omega
    exact lp28371 FU 0 I A L Md.rf Md.rf hIv rfl (by omega) (by omega) n28400a n28400b hF
noncomputable def fM12_comes (I : Nat → Int32) (A : Nat → Nat → Int32) (L : Nat → Nat → Int64) (z1 : Int32) : Int32 × (Nat → Int32) × (Nat → Nat → Int32) × (Nat → Nat → Int64) := if (A 17 0).toInt ≠ 160 then f_bdM (fM12_copies I A L) fun _ I28298 A28298 L28298 => f_lt ((1 : Int32) + (A28298 18 0)) fun y28302 => f_lt ((A28298 18 0) + (1 : Int32)) fun y28305 => f_bdM (fM12_records I28298 (up3 (up3 A28298 18 (y28302.toNatClampNeg) z1) 18 0 y28305) L28298) fun _ I28404 A28404 L28404 => ((A28404 17 0), I28404, A28404, L28404) else ((-1), I, A, L)
def wo_j150_X12_comes : List Cond := [Cond.fieldLink RX12 70 "WarpDeskModel" "now" "[I", Cond.methodLink RX12 323 yX12_copies, Cond.instanceMethod yX12_copies, Cond.selects RX12 yX12_copies yX12_copies, Cond.initialized RX12, Cond.fieldLink RX12 73 "WarpDeskModel" "row" "[I", Cond.methodLink RX12 326 yX12_records, Cond.instanceMethod yX12_records, Cond.selects RX12 yX12_records yX12_records]
def wz_j150_X12_comes : List Cond := .code yX12_comes cX12_comes 2 (some .int) :: (wo_j150_X12_comes ++ (wsX120 ++ (wz_j151_X12_copies ++ (wz_j152_X12_records ++ ([] : List Cond)))))
theorem zg_j150_X12_comes : ∀ w ∈ wz_j150_X12_comes, goodWord w = true := zg_cons rfl (zg_app (by decide +kernel) (zg_app zgU_wsX120 (zg_app zg_j151_X12_copies (zg_app zg_j152_X12_records zg_nil))))
theorem zi_j150_X12_comes : ∀ w ∈ wz_j150_X12_comes, w ∈ lw_tbl := zi_cons zw_1678 (zi_app (zi_cons zw_1413 (zi_cons zw_1679 (zi_cons zw_1681 (zi_cons zw_70 (zi_cons zw_115 (zi_cons zw_1414 (zi_cons zw_1683 (zi_cons zw_1685 (zi_cons zw_71 zi_nil))))))))) (zi_app inX12 (zi_app zi_j151_X12_copies (zi_app zi_j152_X12_records zi_nil))))
set_option maxHeartbeats 4000000 in
set_option maxRecDepth 100000 in
theorem j150_X12_comes (l : Launch) (D : va_G) (zt : Nat × Nat × Nat × (Nat → Nat) × (Nat → Nat)) (r : Nat → Nat) (g : Nat → ClassId) (I : Nat → Int32) (A : Nat → Nat → Int32) (L : Nat → Nat → Int64) (z1 : Int32) (hIv : IvM I A) : GM l D zt (tyM g) yX12_comes wz_j150_X12_comes ({ frames := 2, cells := 0, slots := 0, locals := 42 } : Room) [.ref (r 0), .int z1] (wM r g I A L) (fun v _ w' => ∃ (I' : Nat → Int32) (A' : Nat → Nat → Int32) (L' : Nat → Nat → Int64), Md [22] I I' ∧ Md [17, 18, 22] A A' ∧ IvM I' A' ∧ ∃ y0 : Int32, (L' = L) ∧ ((-1) ≤ y0.toInt) ∧ (y0.toInt ≤ 160) ∧ FE (fM12_comes I A L z1) (y0, I', A', L') ∧ v = some (.int y0) ∧ w' = wM r g I' A' L') 0 0 := by
  refine GM.of (cc := cX12_comes) (maxL := 2) (ret := (some .int)) (own := RX12) (lv := [(0, .ref (r 0)), (1, .int z1)]) (by decide) rfl rfl (Nat.le_of_ble_eq_true rfl) rfl (fun κ sz hk hR hN => ?_)
  have hin12 : ∀ w ∈ u_ws RX12 TX12 55, w ∈ wz_j150_X12_comes := fun w h => (List.mem_cons_of_mem _ (List.mem_append_right _ (List.mem_append_left _ h)))
  have hF : FE (fM12_comes I A L z1) (fM12_comes I A L z1) := FE.rf
  refine g_aload_n hk dX12_comes_0 rfl ?_
  refine gM_r0_35 hk hin12 (List.mem_cons_of_mem _ (List.mem_append_left _ (List.mem_of_getElem? (i := 0) rfl))) dX12_comes_1 ?_
  refine g_iconst (v := 0) hk dX12_comes_4 (by decide) ?_
  refine lM_17 (v := (A 17 0)) hk (vp_in_iff.mpr ⟨by decide, by decide⟩) rfl dX12_comes_5 ?_
  have f28285 := IvM_s17_0 hIv
  refine g_sipush (v := 160) hk dX12_comes_6 (by decide) ?_
  refine g_icmp_ne (tgt := 14) (a := (A 17 0).toInt) (b := 160) hk dX12_comes_9 (by decide) rfl rfl (fun c28286 => ?_) (fun c28286 => ?_)
  · skip
    replace hF := FE.pos hF c28286
    refine g_aload_n hk dX12_comes_14 rfl ?_
    refine g_callV (n := 0) hk (j151_X12_copies l D zt r g I A L  hIv) (SP.same _) (fun _ h => h) (gi_V (List.mem_cons_of_mem _ (List.mem_append_left _ (List.mem_of_getElem? (i := 1) rfl))) (List.mem_cons_of_mem _ (List.mem_append_left _ (List.mem_of_getElem? (i := 2) rfl))) (List.mem_cons_of_mem _ (List.mem_append_left _ (List.mem_of_getElem? (i := 3) rfl))) (List.mem_cons_of_mem _ (List.mem_append_left _ (List.mem_of_getElem? (i := 4) rfl))) (gi_sub (fun w h => (List.mem_cons_of_mem _ (List.mem_append_right _ (List.mem_append_right _ (List.mem_append_left _ h))))) zg_j151_X12_copies)) rfl rfl rfl (by decide +kernel) ⟨Nat.le_of_ble_eq_true rfl, Nat.le_of_ble_eq_true rfl⟩ 0 rfl rfl rfl rfl (Nat.le_of_ble_eq_true rfl) ⟨Nat.le_of_ble_eq_true rfl, Nat.le_of_ble_eq_true rfl⟩ dX12_comes_15 (fun v ty' w' hp hk' => ?_)
    obtain ⟨I28298, A28298, L28298, hI28298, hA28298, hV28298, r28299, r28300, hL28298, hC, rfl, rfl⟩ := hp
    replace hF := FE.bdM hF hC
    have f28301 := IvM_s17_164 hIv
    show GW κ 2 0 0 (wM r g I28298 A28298 L28298) 18 [(0, .ref (r 0)), (1, .int z1)] []
    refine g_aload_n hk dX12_comes_18 rfl ?_
    refine gM_r0_36 hk hin12 (List.mem_cons_of_mem _ (List.mem_append_left _ (List.mem_of_getElem? (i := 5) rfl))) dX12_comes_19 ?_
    refine g_iconst (v := 1) hk dX12_comes_22 (by decide) ?_
    refine g_aload_n hk dX12_comes_23 rfl ?_
    refine gM_r0_36 hk hin12 (List.mem_cons_of_mem _ (List.mem_append_left _ (List.mem_of_getElem? (i := 5) rfl))) dX12_comes_24 ?_
    refine g_iconst (v := 0) hk dX12_comes_27 (by decide) ?_
    refine lM_18 (v := (A28298 18 0)) hk (vp_in_iff.mpr ⟨by decide, by decide⟩) rfl dX12_comes_28 ?_
    refine g_iadd hk dX12_comes_29 ?_
    refine g_topi (fun y28302 ey28302 => ?_)
    replace hF := FE.lt hF ey28302
    have hy28302 : y28302.toInt = 1 + (A28298 18 0).toInt := i32_add ey28302 rfl rfl (by omega) (by omega)
    refine g_iload_n hk dX12_comes_30 rfl ?_
    refine sM_18 (j := y28302.toNatClampNeg) hk (vp_in_iff.mpr ⟨by omega, by omega⟩) rfl dX12_comes_31 ?_
    have hS28303 : (up3 A28298 18 (y28302.toNatClampNeg) z1) 18 0 = (A28298 18 0) := (up3_ne (by have := cl_int (y := y28302) (by omega); omega)).trans (show A28298 18 0 = (A28298 18 0) from rfl)
    have hS28304 : (up3 A28298 18 (y28302.toNatClampNeg) z1) 18 164 = (A28298 18 164) := (up3_ne (by have := cl_int (y := y28302) (by omega); omega)).trans (show A28298 18 164 = (A28298 18 164) from rfl)
    refine g_aload_n hk dX12_comes_32 rfl ?_
    refine gM_r0_36 hk hin12 (List.mem_cons_of_mem _ (List.mem_append_left _ (List.mem_of_getElem? (i := 5) rfl))) dX12_comes_33 ?_
    refine g_iconst (v := 0) hk dX12_comes_36 (by decide) ?_
    refine g_dup2 hk dX12_comes_37 rfl rfl ?_
    refine lM_18 (v := (A28298 18 0)) hk (vp_in_iff.mpr ⟨by decide, by decide⟩) hS28303 dX12_comes_38 ?_
    refine g_iconst (v := 1) hk dX12_comes_39 (by decide) ?_
    refine g_iadd hk dX12_comes_40 ?_
    refine g_topi (fun y28305 ey28305 => ?_)
    replace hF := FE.lt hF ey28305
    have hy28305 : y28305.toInt = (A28298 18 0).toInt + 1 := i32_add ey28305 rfl rfl (by omega) (by omega)
    refine sM_18 (j := 0) hk (vp_in_iff.mpr ⟨by decide, by decide⟩) (by decide) dX12_comes_41 ?_
    refine g_aload_n hk dX12_comes_42 rfl ?_
    refine g_callV (n := 0) hk (j152_X12_records l D zt r g I28298 (up3 (up3 A28298 18 (y28302.toNatClampNeg) z1) 18 0 y28305) L28298  ⟨(IvM_f1 (I := I28298) (A := A28298) hV28298), (IvM_f2 (I := I28298) (A := A28298) hV28298), (IvM_f3 (I := I28298) (A := A28298) hV28298), (IvM_f4 (I := I28298) (A := A28298) hV28298), (IvM_f6 (I := I28298) (A := A28298) hV28298), (IvM_f8 (I := I28298) (A := A28298) hV28298), (IvM_f15 (I := I28298) (A := A28298) hV28298), (IvM_f16 (I := I28298) (A := A28298) hV28298), (IvM_f17 (I := I28298) (A := A28298) hV28298), (IvM_f18 (I := I28298) (A := A28298) hV28298), (IvM_f22 (I := I28298) (A := A28298) hV28298), (IvM_f23 (I := I28298) (A := A28298) hV28298), (IvM_f24 (I := I28298) (A := A28298) hV28298), (IvM_a11 (I := I28298) (A := A28298) hV28298), (IvM_a26 (I := I28298) (A := A28298) hV28298), (IvM_s8_0 (I := I28298) (A := A28298) hV28298), (IvM_s8_1 (I := I28298) (A := A28298) hV28298), (IvM_s10_0 (I := I28298) (A := A28298) hV28298), (IvM_s10_1 (I := I28298) (A := A28298) hV28298), (IvM_s17_0 (I := I28298) (A := A28298) hV28298), (IvM_s17_164 (I := I28298) (A := A28298) hV28298), (IvM_lv (I := I28298) (A := A28298) hV28298), (IvM_sd (I := I28298) (A := A28298) hV28298), (IvM_nq (I := I28298) (A := A28298) hV28298), (IvM_hr (I := I28298) (A := A28298) hV28298), (IvM_hh (I := I28298) (A := A28298) hV28298), trivial⟩ (by first | (rw [show ((up3 (up3 A28298 18 (y28302.toNatClampNeg) z1) 18 0 y28305) 18 0) = y28305 from rfl] <;> omega) | omega) (by first | (rw [show ((up3 (up3 A28298 18 (y28302.toNatClampNeg) z1) 18 0 y28305) 18 0) = y28305 from rfl] <;> omega) | omega) (by first | (rw [show ((up3 (up3 A28298 18 (y28302.toNatClampNeg) z1) 18 0 y28305) 18 164) = (A28298 18 164) from hS28304] <;> omega) | omega)) (SP.same _) (fun _ h => h) (gi_V (List.mem_cons_of_mem _ (List.mem_append_left _ (List.mem_of_getElem? (i := 6) rfl))) (List.mem_cons_of_mem _ (List.mem_append_left _ (List.mem_of_getElem? (i := 7) rfl))) (List.mem_cons_of_mem _ (List.mem_append_left _ (List.mem_of_getElem? (i := 8) rfl))) (List.mem_cons_of_mem _ (List.mem_append_left _ (List.mem_of_getElem? (i := 4) rfl))) (gi_sub (fun w h => (List.mem_cons_of_mem _ (List.mem_append_right _ (List.mem_append_right _ (List.mem_append_right _ (List.mem_append_left _ h)))))) zg_j152_X12_records)) rfl rfl rfl (by decide +kernel) ⟨Nat.le_of_ble_eq_true rfl, Nat.le_of_ble_eq_true rfl⟩ 0 rfl rfl rfl rfl (Nat.le_of_ble_eq_true rfl) ⟨Nat.le_of_ble_eq_true rfl, Nat.le_of_ble_eq_true rfl⟩ dX12_comes_43 (fun v ty' w' hp hk' => ?_)
    obtain ⟨I28404, A28404, L28404, hI28404, hA28404, hV28404, hL28404, hC, rfl, rfl⟩ := hp
    replace hF := FE.bdM hF hC
    show GW κ 2 0 0 (wM r g I28404 A28404 L28404) 46 [(0, .ref (r 0)), (1, .int z1)] []
    refine g_aload_n hk dX12_comes_46 rfl ?_
    refine gM_r0_35 hk hin12 (List.mem_cons_of_mem _ (List.mem_append_left _ (List.mem_of_getElem? (i := 0) rfl))) dX12_comes_47 ?_
    refine g_iconst (v := 0) hk dX12_comes_50 (by decide) ?_
    refine lM_17 (v := (A28404 17 0)) hk (vp_in_iff.mpr ⟨by decide, by decide⟩) rfl dX12_comes_51 ?_
    have f28405 := IvM_s17_0 hV28404
    exact g_iret hk hR rfl ⟨I28404, A28404, L28404, (show Md [22] I I28404 from (Md.tr (Md.tr Md.rf hI28298 rfl) hI28404 rfl)), (show Md [17, 18, 22] A A28404 from (Md.tr (Md.up3 (Md.up3 (Md.tr Md.rf hA28298 rfl) rfl) rfl) hA28404 rfl)), hV28404, (A28404 17 0), (show L28404 = L from (hL28404.trans hL28298)), (by omega), (by omega), hF, rfl, rfl⟩ dX12_comes_52
  · skip
    replace hF := FE.neg hF c28286
    refine g_iconst (v := (-1)) hk dX12_comes_12 (by decide) ?_
    exact g_iret hk hR rfl ⟨I, A, L, (show Md [22] I I from Md.rf), (show Md [17, 18, 22] A A from Md.rf), hIv, (-1), (show L = L from rfl), (by decide), (by decide), hF, rfl, rfl⟩ dX12_comes_13
noncomputable def fM12_push (I : Nat → Int32) (A : Nat → Nat → Int32) (L : Nat → Nat → Int64) (z1 : Int32) : Int32 × (Nat → Int32) × (Nat → Nat → Int32) × (Nat → Nat → Int64) := if fM12_in I A L z1 (-999) 999 = 0 then ((-1), I, A, L) else f_bdM (fM12_comes I A L z1) fun y28406 I28409 A28409 L28409 => (y28406, I28409, A28409, L28409)
def wo_j149_X12_push : List Cond := [Cond.methodLink RX12 244 yX12_in, Cond.static yX12_in, Cond.initialized RX12, Cond.methodLink RX12 329 yX12_comes, Cond.instanceMethod yX12_comes, Cond.selects RX12 yX12_comes yX12_comes]
def wz_j149_X12_push : List Cond := .code yX12_push cX12_push 2 (some .int) :: (wo_j149_X12_push ++ (wz_j145_X12_in ++ (wz_j150_X12_comes ++ ([] : List Cond))))
theorem zg_j149_X12_push : ∀ w ∈ wz_j149_X12_push, goodWord w = true := zg_cons rfl (zg_app (by decide +kernel) (zg_app zg_j145_X12_in (zg_app zg_j150_X12_comes zg_nil)))
theorem zi_j149_X12_push : ∀ w ∈ wz_j149_X12_push, w ∈ lw_tbl := zi_cons zw_1674 (zi_app (zi_cons zw_1656 (zi_cons zw_1657 (zi_cons zw_115 (zi_cons zw_1675 (zi_cons zw_1677 (zi_cons zw_69 zi_nil)))))) (zi_app zi_j145_X12_in (zi_app zi_j150_X12_comes zi_nil)))
set_option maxHeartbeats 4000000 in
set_option maxRecDepth 100000 in
theorem j149_X12_push (l : Launch) (D : va_G) (zt : Nat × Nat × Nat × (Nat → Nat) × (Nat → Nat)) (r : Nat → Nat) (g : Nat → ClassId) (I : Nat → Int32) (A : Nat → Nat → Int32) (L : Nat → Nat → Int64) (z1 : Int32) (hIv : IvM I A) : GM l D zt (tyM g) yX12_push wz_j149_X12_push ({ frames := 3, cells := 0, slots := 0, locals := 63 } : Room) [.ref (r 0), .int z1] (wM r g I A L) (fun v _ w' => ∃ (I' : Nat → Int32) (A' : Nat → Nat → Int32) (L' : Nat → Nat → Int64), Md [22] I I' ∧ Md [17, 18, 22] A A' ∧ IvM I' A' ∧ ∃ y0 : Int32, (L' = L) ∧ ((-1) ≤ y0.toInt) ∧ (y0.toInt ≤ 160) ∧ FE (fM12_push I A L z1) (y0, I', A', L') ∧ v = some (.int y0) ∧ w' = wM r g I' A' L') 0 0 := by
  refine GM.of (cc := cX12_push) (maxL := 2) (ret := (some .int)) (own := RX12) (lv := [(0, .ref (r 0)), (1, .int z1)]) (by decide) rfl rfl (Nat.le_of_ble_eq_true rfl) rfl (fun κ sz hk hR hN => ?_)
  have hF : FE (fM12_push I A L z1) (fM12_push I A L z1) := FE.rf
  refine g_iload_n hk dX12_push_0 rfl ?_
  refine g_sipush (v := (-999)) hk dX12_push_1 (by decide) ?_
  refine g_sipush (v := 999) hk dX12_push_4 (by decide) ?_
  have k28277 : ((-999) : Int32).toInt = (-999) := rfl
  have k28278 : (999 : Int32).toInt = 999 := rfl
  refine g_callS (n := 3) hk (j145_X12_in l D zt r g I A L z1 (-999) 999 hIv) (SP.same _) (fun _ h => h) (gi_S (List.mem_cons_of_mem _ (List.mem_append_left _ (List.mem_of_getElem? (i := 0) rfl))) (List.mem_cons_of_mem _ (List.mem_append_left _ (List.mem_of_getElem? (i := 1) rfl))) (List.mem_cons_of_mem _ (List.mem_append_left _ (List.mem_of_getElem? (i := 2) rfl))) (gi_sub (fun w h => (List.mem_cons_of_mem _ (List.mem_append_right _ (List.mem_append_left _ h)))) zg_j145_X12_in)) rfl rfl rfl (by decide +kernel) ⟨Nat.le_of_ble_eq_true rfl, Nat.le_of_ble_eq_true rfl⟩ rfl rfl (Nat.le_of_ble_eq_true rfl) ⟨Nat.le_of_ble_eq_true rfl, Nat.le_of_ble_eq_true rfl⟩ dX12_push_7 (fun v ty' w' hp hk' => ?_)
  rcases hp with ⟨c28279, hC, rfl, rfl⟩ | ⟨c28281, c28282, hC, rfl, rfl⟩
  · skip
    replace hF := FE.pos hF hC
    have b28284l := Int32.le_toInt z1
    have b28284h := Int32.toInt_lt z1
    show GW κ 2 0 0 (wM r g I A L) 10 [(0, .ref (r 0)), (1, .int z1)] [.int 0]
    refine g_if_eq (tgt := 21) (a := 0) hk dX12_push_10 (by decide) rfl (fun _ => ?_) (fun z9 => absurd (show (0 : Int) = (0 : Int) from by decide) z9)
    refine g_iconst (v := (-1)) hk dX12_push_21 (by decide) ?_
    exact g_iret hk hR rfl ⟨I, A, L, (show Md [22] I I from Md.rf), (show Md [17, 18, 22] A A from Md.rf), hIv, (-1), (show L = L from rfl), (by decide), (by decide), hF, rfl, rfl⟩ dX12_push_22
  · skip
    replace hF := FE.neg hF (fe_ne hC (by decide))
    show GW κ 2 0 0 (wM r g I A L) 10 [(0, .ref (r 0)), (1, .int z1)] [.int 1]
    refine g_if_eq (tgt := 21) (a := 1) hk dX12_push_10 (by decide) rfl (fun z9 => absurd z9 (show ¬ ((1 : Int) = (0 : Int)) from by decide)) (fun _ => ?_)
    refine g_aload_n hk dX12_push_13 rfl ?_
    refine g_iload_n hk dX12_push_14 rfl ?_
    refine g_callV (n := 1) hk (j150_X12_comes l D zt r g I A L z1 hIv) (SP.same _) (fun _ h => h) (gi_V (List.mem_cons_of_mem _ (List.mem_append_left _ (List.mem_of_getElem? (i := 3) rfl))) (List.mem_cons_of_mem _ (List.mem_append_left _ (List.mem_of_getElem? (i := 4) rfl))) (List.mem_cons_of_mem _ (List.mem_append_left _ (List.mem_of_getElem? (i := 5) rfl))) (List.mem_cons_of_mem _ (List.mem_append_left _ (List.mem_of_getElem? (i := 2) rfl))) (gi_sub (fun w h => (List.mem_cons_of_mem _ (List.mem_append_right _ (List.mem_append_right _ (List.mem_append_left _ h))))) zg_j150_X12_comes)) rfl rfl rfl (by decide +kernel) ⟨Nat.le_of_ble_eq_true rfl, Nat.le_of_ble_eq_true rfl⟩ 0 rfl rfl rfl rfl (Nat.le_of_ble_eq_true rfl) ⟨Nat.le_of_ble_eq_true rfl, Nat.le_of_ble_eq_true rfl⟩ dX12_push_15 (fun v ty' w' hp hk' => ?_)
    obtain ⟨I28409, A28409, L28409, hI28409, hA28409, hV28409, y28406, hL28409, c28407, c28408, hC, rfl, rfl⟩ := hp
    replace hF := FE.bdM hF hC
    show GW κ 2 0 0 (wM r g I28409 A28409 L28409) 18 [(0, .ref (r 0)), (1, .int z1)] [.int y28406]
    refine g_goto (tgt := 22) hk dX12_push_18 (by decide) ?_
    exact g_iret hk hR rfl ⟨I28409, A28409, L28409, (show Md [22] I I28409 from (Md.tr Md.rf hI28409 rfl)), (show Md [17, 18, 22] A A28409 from (Md.tr Md.rf hA28409 rfl)), hV28409, y28406, (show L28409 = L from hL28409), (by omega), (by omega), hF, rfl, rfl⟩ dX12_push_22
noncomputable def fM12_gap (I : Nat → Int32) (A : Nat → Nat → Int32) (L : Nat → Nat → Int64) : Int32 × (Nat → Int32) × (Nat → Nat → Int32) × (Nat → Nat → Int64) := f_bdM (fM12_comes I A L 100000) fun y28411 I28414 A28414 L28414 => (y28411, I28414, A28414, L28414)
def wo_j153_X12_gap : List Cond := [Cond.constant RX12 239 (100000), Cond.methodLink RX12 329 yX12_comes, Cond.instanceMethod yX12_comes, Cond.selects RX12 yX12_comes yX12_comes, Cond.initialized RX12]
def wz_j153_X12_gap : List Cond := .code yX12_gap cX12_gap 1 (some .int) :: (wo_j153_X12_gap ++ (wz_j150_X12_comes ++ ([] : List Cond)))
theorem zg_j153_X12_gap : ∀ w ∈ wz_j153_X12_gap, goodWord w = true := zg_cons rfl (zg_app (by decide +kernel) (zg_app zg_j150_X12_comes zg_nil))
theorem zi_j153_X12_gap : ∀ w ∈ wz_j153_X12_gap, w ∈ lw_tbl := zi_cons zw_1690 (zi_app (zi_cons zw_1607 (zi_cons zw_1675 (zi_cons zw_1677 (zi_cons zw_69 (zi_cons zw_115 zi_nil))))) (zi_app zi_j150_X12_comes zi_nil))
set_option maxHeartbeats 4000000 in
set_option maxRecDepth 100000 in
theorem j153_X12_gap (l : Launch) (D : va_G) (zt : Nat × Nat × Nat × (Nat → Nat) × (Nat → Nat)) (r : Nat → Nat) (g : Nat → ClassId) (I : Nat → Int32) (A : Nat → Nat → Int32) (L : Nat → Nat → Int64) (hIv : IvM I A) : GM l D zt (tyM g) yX12_gap wz_j153_X12_gap ({ frames := 3, cells := 0, slots := 0, locals := 63 } : Room) [.ref (r 0)] (wM r g I A L) (fun v _ w' => ∃ (I' : Nat → Int32) (A' : Nat → Nat → Int32) (L' : Nat → Nat → Int64), Md [22] I I' ∧ Md [17, 18, 22] A A' ∧ IvM I' A' ∧ ∃ y0 : Int32, (L' = L) ∧ ((-1) ≤ y0.toInt) ∧ (y0.toInt ≤ 160) ∧ FE (fM12_gap I A L) (y0, I', A', L') ∧ v = some (.int y0) ∧ w' = wM r g I' A' L') 0 0 := by
  refine GM.of (cc := cX12_gap) (maxL := 1) (ret := (some .int)) (own := RX12) (lv := [(0, .ref (r 0))]) (by decide) rfl rfl (Nat.le_of_ble_eq_true rfl) rfl (fun κ sz hk hR hN => ?_)
  have hF : FE (fM12_gap I A L) (fM12_gap I A L) := FE.rf
  refine g_aload_n hk dX12_gap_0 rfl ?_
  refine g_ldc (v := 100000) hk (List.mem_cons_of_mem _ (List.mem_append_left _ (List.mem_of_getElem? (i := 0) rfl))) dX12_gap_1 ?_
  have k28410 : (100000 : Int32).toInt = 100000 := rfl
  refine g_callV (n := 1) hk (j150_X12_comes l D zt r g I A L 100000 hIv) (SP.same _) (fun _ h => h) (gi_V (List.mem_cons_of_mem _ (List.mem_append_left _ (List.mem_of_getElem? (i := 1) rfl))) (List.mem_cons_of_mem _ (List.mem_append_left _ (List.mem_of_getElem? (i := 2) rfl))) (List.mem_cons_of_mem _ (List.mem_append_left _ (List.mem_of_getElem? (i := 3) rfl))) (List.mem_cons_of_mem _ (List.mem_append_left _ (List.mem_of_getElem? (i := 4) rfl))) (gi_sub (fun w h => (List.mem_cons_of_mem _ (List.mem_append_right _ (List.mem_append_left _ h)))) zg_j150_X12_comes)) rfl rfl rfl (by decide +kernel) ⟨Nat.le_of_ble_eq_true rfl, Nat.le_of_ble_eq_true rfl⟩ 0 rfl rfl rfl rfl (Nat.le_of_ble_eq_true rfl) ⟨Nat.le_of_ble_eq_true rfl, Nat.le_of_ble_eq_true rfl⟩ dX12_gap_3 (fun v ty' w' hp hk' => ?_)
  obtain ⟨I28414, A28414, L28414, hI28414, hA28414, hV28414, y28411, hL28414, c28412, c28413, hC, rfl, rfl⟩ := hp
  replace hF := FE.bdM hF hC
  show GW κ 1 0 0 (wM r g I28414 A28414 L28414) 6 [(0, .ref (r 0))] [.int y28411]
  exact g_iret hk hR rfl ⟨I28414, A28414, L28414, (show Md [22] I I28414 from (Md.tr Md.rf hI28414 rfl)), (show Md [17, 18, 22] A A28414 from (Md.tr Md.rf hA28414 rfl)), hV28414, y28411, (show L28414 = L from hL28414), (by omega), (by omega), hF, rfl, rfl⟩ dX12_gap_6
noncomputable def fM12_downBy (I : Nat → Int32) (A : Nat → Nat → Int32) (L : Nat → Nat → Int64) (z0 : Int32) (z1 : Int32) : Int32 := f_lt (z0 / z1) fun y28455 => f_lt (z0 - z0 / z1 * z1) fun y28456 => if 0 ≤ y28456.toInt then y28455 else f_lt (y28455 - (1 : Int32)) fun y28461 => y28461
def wz_j155_X12_downBy : List Cond := .code yX12_downBy cX12_downBy 3 (some .int) :: (wo_k126_X10_isLetter ++ ([] : List Cond))
theorem zg_j155_X12_downBy : ∀ w ∈ wz_j155_X12_downBy, goodWord w = true := zg_cons rfl (zg_app (by decide +kernel) zg_nil)
theorem zi_j155_X12_downBy : ∀ w ∈ wz_j155_X12_downBy, w ∈ lw_tbl := zi_cons zw_1697 (zi_app zi_nil zi_nil)
set_option maxHeartbeats 4000000 in
set_option maxRecDepth 100000 in
theorem j155_X12_downBy (l : Launch) (D : va_G) (zt : Nat × Nat × Nat × (Nat → Nat) × (Nat → Nat)) (r : Nat → Nat) (g : Nat → ClassId) (I : Nat → Int32) (A : Nat → Nat → Int32) (L : Nat → Nat → Int64) (z0 : Int32) (z1 : Int32) (hIv : IvM I A) (hp0 : 1 ≤ z1.toInt) : GM l D zt (tyM g) yX12_downBy wz_j155_X12_downBy ({ frames := 0, cells := 0, slots := 0, locals := 0 } : Room) [.int z0, .int z1] (wM r g I A L) (fun v _ w' => ∃ y0 : Int32, FE (fM12_downBy I A L z0 z1) y0 ∧ v = some (.int y0) ∧ w' = wM r g I A L) 0 0 := by
  refine GM.of (cc := cX12_downBy) (maxL := 3) (ret := (some .int)) (own := RX12) (lv := [(0, .int z0), (1, .int z1)]) (by decide) rfl rfl (Nat.le_of_ble_eq_true rfl) rfl (fun κ sz hk hR hN => ?_)
  have hF : FE (fM12_downBy I A L z0 z1) (fM12_downBy I A L z0 z1) := FE.rf
  refine g_iload_n hk dX12_downBy_0 rfl ?_
  refine g_iload_n hk dX12_downBy_1 rfl ?_
  have b28454l := Int32.le_toInt z1
  have b28454h := Int32.toInt_lt z1
  refine g_idiv hk dX12_downBy_2 (i32_ne0 (by omega)) ?_
  refine g_topi (fun y28455 ey28455 => ?_)
  replace hF := FE.lt hF ey28455
  refine g_istore_n (lv' := [(2, .int y28455), (0, .int z0), (1, .int z1)]) hk dX12_downBy_3 (by decide) rfl ?_
  refine g_iload_n hk dX12_downBy_4 rfl ?_
  refine g_iload_n hk dX12_downBy_5 rfl ?_
  refine g_irem hk dX12_downBy_6 (i32_ne0 (by omega)) ?_
  refine g_topi (fun y28456 ey28456 => ?_)
  replace hF := FE.lt hF ey28456
  have b28457l := Int32.le_toInt y28456
  have b28457h := Int32.toInt_lt y28456
  refine g_if_ge (tgt := 16) (a := y28456.toInt) hk dX12_downBy_7 (by decide) rfl (fun c28458 => ?_) (fun c28458 => ?_)
  · skip
    replace hF := FE.pos hF c28458
    refine g_iload_n hk dX12_downBy_16 rfl ?_
    have b28459l := Int32.le_toInt y28455
    have b28459h := Int32.toInt_lt y28455
    exact g_iret hk hR rfl ⟨y28455, hF, rfl, rfl⟩ dX12_downBy_17
  · skip
    replace hF := FE.neg hF c28458
    refine g_iload_n hk dX12_downBy_10 rfl ?_
    refine g_iconst (v := 1) hk dX12_downBy_11 (by decide) ?_
    have b28460l := Int32.le_toInt y28455
    have b28460h := Int32.toInt_lt y28455
    refine g_isub hk dX12_downBy_12 ?_
    refine g_topi (fun y28461 ey28461 => ?_)
    replace hF := FE.lt hF ey28461
    have hy28461 := i32_sub0 ey28461
    refine g_goto (tgt := 17) hk dX12_downBy_13 (by decide) ?_
    have b28462l := Int32.le_toInt y28461
    have b28462h := Int32.toInt_lt y28461
    exact g_iret hk hR rfl ⟨y28461, hF, rfl, rfl⟩ dX12_downBy_17
noncomputable def fM12_mend (I : Nat → Int32) (A : Nat → Nat → Int32) (L : Nat → Nat → Int64) (z1 : Int32) : Int32 × (Nat → Int32) × (Nat → Nat → Int32) × (Nat → Nat → Int64) := if fM12_isPlace I A L z1 = 0 then ((-1000), I, A, L) else if fM12_isThere I A L z1 = 0 then f_lt (z1 - (1 : Int32)) fun y28427 => if fM12_isThere I A L y28427 = 0 then ((-1000), I, A, L) else f_lt (z1 + (1 : Int32)) fun y28435 => if fM12_isThere I A L y28435 = 0 then ((-1000), I, A, L) else f_bdM (fM12_copies I A L) fun _ I28444 A28444 L28444 => f_lt ((1 : Int32) + z1) fun y28449 => f_lt ((2 : Int32) + z1) fun y28450 => f_lt ((A28444 18 z1.toNatClampNeg) + (A28444 18 y28450.toNatClampNeg)) fun y28453 => f_lt (fM12_downBy I28444 A28444 L28444 y28453 2) fun y28464 => f_bdM (fM12_records I28444 (up3 A28444 18 (y28449.toNatClampNeg) y28464) L28444) fun _ I28468 A28468 L28468 => f_lt ((1 : Int32) + z1) fun y28469 => ((A28468 17 y28469.toNatClampNeg), I28468, A28468, L28468) else ((-1000), I, A, L)
def wo_j154_X12_mend : List Cond := [Cond.methodLink RX12 248 yX12_isPlace, Cond.instanceMethod yX12_isPlace, Cond.selects RX12 yX12_isPlace yX12_isPlace, Cond.initialized RX12, Cond.methodLink RX12 320 yX12_isThere, Cond.instanceMethod yX12_isThere, Cond.selects RX12 yX12_isThere yX12_isThere, Cond.methodLink RX12 323 yX12_copies, Cond.instanceMethod yX12_copies, Cond.selects RX12 yX12_copies yX12_copies, Cond.fieldLink RX12 73 "WarpDeskModel" "row" "[I", Cond.methodLink RX12 261 yX12_downBy, Cond.static yX12_downBy, Cond.methodLink RX12 326 yX12_records, Cond.instanceMethod yX12_records, Cond.selects RX12 yX12_records yX12_records, Cond.fieldLink RX12 70 "WarpDeskModel" "now" "[I"]
def wz_j154_X12_mend : List Cond := .code yX12_mend cX12_mend 2 (some .int) :: (wo_j154_X12_mend ++ (wsX120 ++ (wz_j144_X12_isPlace ++ (wz_j143_X12_isThere ++ (wz_j151_X12_copies ++ (wz_j155_X12_downBy ++ (wz_j152_X12_records ++ ([] : List Cond))))))))
theorem zg_j154_X12_mend : ∀ w ∈ wz_j154_X12_mend, goodWord w = true := zg_cons rfl (zg_app (by decide +kernel) (zg_app zgU_wsX120 (zg_app zg_j144_X12_isPlace (zg_app zg_j143_X12_isThere (zg_app zg_j151_X12_copies (zg_app zg_j155_X12_downBy (zg_app zg_j152_X12_records zg_nil)))))))
theorem zi_j154_X12_mend : ∀ w ∈ wz_j154_X12_mend, w ∈ lw_tbl := zi_cons zw_1694 (zi_app (zi_cons zw_1652 (zi_cons zw_1654 (zi_cons zw_66 (zi_cons zw_115 (zi_cons zw_1648 (zi_cons zw_1650 (zi_cons zw_65 (zi_cons zw_1679 (zi_cons zw_1681 (zi_cons zw_70 (zi_cons zw_1414 (zi_cons zw_1695 (zi_cons zw_1696 (zi_cons zw_1683 (zi_cons zw_1685 (zi_cons zw_71 (zi_cons zw_1413 zi_nil))))))))))))))))) (zi_app inX12 (zi_app zi_j144_X12_isPlace (zi_app zi_j143_X12_isThere (zi_app zi_j151_X12_copies (zi_app zi_j155_X12_downBy (zi_app zi_j152_X12_records zi_nil)))))))
set_option maxHeartbeats 4000000 in
set_option maxRecDepth 100000 in
theorem j154_X12_mend (l : Launch) (D : va_G) (zt : Nat × Nat × Nat × (Nat → Nat) × (Nat → Nat)) (r : Nat → Nat) (g : Nat → ClassId) (I : Nat → Int32) (A : Nat → Nat → Int32) (L : Nat → Nat → Int64) (z1 : Int32) (hIv : IvM I A) : GM l D zt (tyM g) yX12_mend wz_j154_X12_mend ({ frames := 3, cells := 0, slots := 0, locals := 64 } : Room) [.ref (r 0), .int z1] (wM r g I A L) (fun v _ w' => ∃ (I' : Nat → Int32) (A' : Nat → Nat → Int32) (L' : Nat → Nat → Int64), Md [22] I I' ∧ Md [17, 18, 22] A A' ∧ IvM I' A' ∧ ∃ y0 : Int32, (L' = L) ∧ FE (fM12_mend I A L z1) (y0, I', A', L') ∧ v = some (.int y0) ∧ w' = wM r g I' A' L') 0 0 := by
  refine GM.of (cc := cX12_mend) (maxL := 2) (ret := (some .int)) (own := RX12) (lv := [(0, .ref (r 0)), (1, .int z1)]) (by decide) rfl rfl (Nat.le_of_ble_eq_true rfl) rfl (fun κ sz hk hR hN => ?_)
  have hin12 : ∀ w ∈ u_ws RX12 TX12 55, w ∈ wz_j154_X12_mend := fun w h => (List.mem_cons_of_mem _ (List.mem_append_right _ (List.mem_append_left _ h)))
  have hF : FE (fM12_mend I A L z1) (fM12_mend I A L z1) := FE.rf
  refine g_aload_n hk dX12_mend_0 rfl ?_
  refine g_iload_n hk dX12_mend_1 rfl ?_
  refine g_callV (n := 1) hk (j144_X12_isPlace l D zt r g I A L z1 hIv) (SP.same _) (fun _ h => h) (gi_V (List.mem_cons_of_mem _ (List.mem_append_left _ (List.mem_of_getElem? (i := 0) rfl))) (List.mem_cons_of_mem _ (List.mem_append_left _ (List.mem_of_getElem? (i := 1) rfl))) (List.mem_cons_of_mem _ (List.mem_append_left _ (List.mem_of_getElem? (i := 2) rfl))) (List.mem_cons_of_mem _ (List.mem_append_left _ (List.mem_of_getElem? (i := 3) rfl))) (gi_sub (fun w h => (List.mem_cons_of_mem _ (List.mem_append_right _ (List.mem_append_right _ (List.mem_append_left _ h))))) zg_j144_X12_isPlace)) rfl rfl rfl (by decide +kernel) ⟨Nat.le_of_ble_eq_true rfl, Nat.le_of_ble_eq_true rfl⟩ 0 rfl rfl rfl rfl (Nat.le_of_ble_eq_true rfl) ⟨Nat.le_of_ble_eq_true rfl, Nat.le_of_ble_eq_true rfl⟩ dX12_mend_2 (fun v ty' w' hp hk' => ?_)
  rcases hp with ⟨hC, rfl, rfl⟩ | ⟨c28416, c28417, c28418, hC, rfl, rfl⟩
  · skip
    replace hF := FE.pos hF hC
    show GW κ 2 0 0 (wM r g I A L) 5 [(0, .ref (r 0)), (1, .int z1)] [.int 0]
    refine g_if_eq (tgt := 36) (a := 0) hk dX12_mend_5 (by decide) rfl (fun _ => ?_) (fun z9 => absurd (show (0 : Int) = (0 : Int) from by decide) z9)
    refine g_sipush (v := (-1000)) hk dX12_mend_36 (by decide) ?_
    exact g_iret hk hR rfl ⟨I, A, L, (show Md [22] I I from Md.rf), (show Md [17, 18, 22] A A from Md.rf), hIv, (-1000), (show L = L from rfl), hF, rfl, rfl⟩ dX12_mend_39
  · skip
    replace hF := FE.neg hF (fe_ne hC (by decide))
    show GW κ 2 0 0 (wM r g I A L) 5 [(0, .ref (r 0)), (1, .int z1)] [.int 1]
    refine g_if_eq (tgt := 36) (a := 1) hk dX12_mend_5 (by decide) rfl (fun z9 => absurd z9 (show ¬ ((1 : Int) = (0 : Int)) from by decide)) (fun _ => ?_)
    refine g_aload_n hk dX12_mend_8 rfl ?_
    refine g_iload_n hk dX12_mend_9 rfl ?_
    refine g_callV (n := 1) hk (j143_X12_isThere l D zt r g I A L z1 hIv) (SP.same _) (fun _ h => h) (gi_V (List.mem_cons_of_mem _ (List.mem_append_left _ (List.mem_of_getElem? (i := 4) rfl))) (List.mem_cons_of_mem _ (List.mem_append_left _ (List.mem_of_getElem? (i := 5) rfl))) (List.mem_cons_of_mem _ (List.mem_append_left _ (List.mem_of_getElem? (i := 6) rfl))) (List.mem_cons_of_mem _ (List.mem_append_left _ (List.mem_of_getElem? (i := 3) rfl))) (gi_sub (fun w h => (List.mem_cons_of_mem _ (List.mem_append_right _ (List.mem_append_right _ (List.mem_append_right _ (List.mem_append_left _ h)))))) zg_j143_X12_isThere)) rfl rfl rfl (by decide +kernel) ⟨Nat.le_of_ble_eq_true rfl, Nat.le_of_ble_eq_true rfl⟩ 0 rfl rfl rfl rfl (Nat.le_of_ble_eq_true rfl) ⟨Nat.le_of_ble_eq_true rfl, Nat.le_of_ble_eq_true rfl⟩ dX12_mend_10 (fun v ty' w' hp hk' => ?_)
    rcases hp with ⟨hC, rfl, rfl⟩ | ⟨c28421, c28422, c28423, c28424, c28425, hC, rfl, rfl⟩
    · skip
      replace hF := FE.pos hF hC
      show GW κ 2 0 0 (wM r g I A L) 13 [(0, .ref (r 0)), (1, .int z1)] [.int 0]
      refine g_if_ne (tgt := 36) (a := 0) hk dX12_mend_13 (by decide) rfl (fun z9 => absurd z9 (show ¬ ((0 : Int) ≠ (0 : Int)) from by decide)) (fun _ => ?_)
      refine g_aload_n hk dX12_mend_16 rfl ?_
      refine g_iload_n hk dX12_mend_17 rfl ?_
      refine g_iconst (v := 1) hk dX12_mend_18 (by decide) ?_
      refine g_isub hk dX12_mend_19 ?_
      refine g_topi (fun y28427 ey28427 => ?_)
      replace hF := FE.lt hF ey28427
      have hy28427 : y28427.toInt = z1.toInt - 1 := i32_sub ey28427 rfl rfl (by omega) (by omega)
      refine g_callV (n := 1) hk (j143_X12_isThere l D zt r g I A L y28427 hIv) (SP.same _) (fun _ h => h) (gi_V (List.mem_cons_of_mem _ (List.mem_append_left _ (List.mem_of_getElem? (i := 4) rfl))) (List.mem_cons_of_mem _ (List.mem_append_left _ (List.mem_of_getElem? (i := 5) rfl))) (List.mem_cons_of_mem _ (List.mem_append_left _ (List.mem_of_getElem? (i := 6) rfl))) (List.mem_cons_of_mem _ (List.mem_append_left _ (List.mem_of_getElem? (i := 3) rfl))) (gi_sub (fun w h => (List.mem_cons_of_mem _ (List.mem_append_right _ (List.mem_append_right _ (List.mem_append_right _ (List.mem_append_left _ h)))))) zg_j143_X12_isThere)) rfl rfl rfl (by decide +kernel) ⟨Nat.le_of_ble_eq_true rfl, Nat.le_of_ble_eq_true rfl⟩ 0 rfl rfl rfl rfl (Nat.le_of_ble_eq_true rfl) ⟨Nat.le_of_ble_eq_true rfl, Nat.le_of_ble_eq_true rfl⟩ dX12_mend_20 (fun v ty' w' hp hk' => ?_)
      rcases hp with ⟨hC, rfl, rfl⟩ | ⟨c28429, c28430, c28431, c28432, c28433, hC, rfl, rfl⟩
      · skip
        replace hF := FE.pos hF hC
        show GW κ 2 0 0 (wM r g I A L) 23 [(0, .ref (r 0)), (1, .int z1)] [.int 0]
        refine g_if_eq (tgt := 36) (a := 0) hk dX12_mend_23 (by decide) rfl (fun _ => ?_) (fun z9 => absurd (show (0 : Int) = (0 : Int) from by decide) z9)
        refine g_sipush (v := (-1000)) hk dX12_mend_36 (by decide) ?_
        exact g_iret hk hR rfl ⟨I, A, L, (show Md [22] I I from Md.rf), (show Md [17, 18, 22] A A from Md.rf), hIv, (-1000), (show L = L from rfl), hF, rfl, rfl⟩ dX12_mend_39
      · skip
        replace hF := FE.neg hF (fe_ne hC (by decide))
        show GW κ 2 0 0 (wM r g I A L) 23 [(0, .ref (r 0)), (1, .int z1)] [.int 1]
        refine g_if_eq (tgt := 36) (a := 1) hk dX12_mend_23 (by decide) rfl (fun z9 => absurd z9 (show ¬ ((1 : Int) = (0 : Int)) from by decide)) (fun _ => ?_)
        refine g_aload_n hk dX12_mend_26 rfl ?_
        refine g_iload_n hk dX12_mend_27 rfl ?_
        refine g_iconst (v := 1) hk dX12_mend_28 (by decide) ?_
        refine g_iadd hk dX12_mend_29 ?_
        refine g_topi (fun y28435 ey28435 => ?_)
        replace hF := FE.lt hF ey28435
        have hy28435 : y28435.toInt = z1.toInt + 1 := i32_add ey28435 rfl rfl (by omega) (by omega)
        refine g_callV (n := 1) hk (j143_X12_isThere l D zt r g I A L y28435 hIv) (SP.same _) (fun _ h => h) (gi_V (List.mem_cons_of_mem _ (List.mem_append_left _ (List.mem_of_getElem? (i := 4) rfl))) (List.mem_cons_of_mem _ (List.mem_append_left _ (List.mem_of_getElem? (i := 5) rfl))) (List.mem_cons_of_mem _ (List.mem_append_left _ (List.mem_of_getElem? (i := 6) rfl))) (List.mem_cons_of_mem _ (List.mem_append_left _ (List.mem_of_getElem? (i := 3) rfl))) (gi_sub (fun w h => (List.mem_cons_of_mem _ (List.mem_append_right _ (List.mem_append_right _ (List.mem_append_right _ (List.mem_append_left _ h)))))) zg_j143_X12_isThere)) rfl rfl rfl (by decide +kernel) ⟨Nat.le_of_ble_eq_true rfl, Nat.le_of_ble_eq_true rfl⟩ 0 rfl rfl rfl rfl (Nat.le_of_ble_eq_true rfl) ⟨Nat.le_of_ble_eq_true rfl, Nat.le_of_ble_eq_true rfl⟩ dX12_mend_30 (fun v ty' w' hp hk' => ?_)
        rcases hp with ⟨hC, rfl, rfl⟩ | ⟨c28437, c28438, c28439, c28440, c28441, hC, rfl, rfl⟩
        · skip
          replace hF := FE.pos hF hC
          show GW κ 2 0 0 (wM r g I A L) 33 [(0, .ref (r 0)), (1, .int z1)] [.int 0]
          refine g_if_ne (tgt := 40) (a := 0) hk dX12_mend_33 (by decide) rfl (fun z9 => absurd z9 (show ¬ ((0 : Int) ≠ (0 : Int)) from by decide)) (fun _ => ?_)
          refine g_sipush (v := (-1000)) hk dX12_mend_36 (by decide) ?_
          exact g_iret hk hR rfl ⟨I, A, L, (show Md [22] I I from Md.rf), (show Md [17, 18, 22] A A from Md.rf), hIv, (-1000), (show L = L from rfl), hF, rfl, rfl⟩ dX12_mend_39
        · skip
          replace hF := FE.neg hF (fe_ne hC (by decide))
          show GW κ 2 0 0 (wM r g I A L) 33 [(0, .ref (r 0)), (1, .int z1)] [.int 1]
          refine g_if_ne (tgt := 40) (a := 1) hk dX12_mend_33 (by decide) rfl (fun _ => ?_) (fun z9 => absurd (show (1 : Int) ≠ (0 : Int) from by decide) z9)
          refine g_aload_n hk dX12_mend_40 rfl ?_
          refine g_callV (n := 0) hk (j151_X12_copies l D zt r g I A L  hIv) (SP.same _) (fun _ h => h) (gi_V (List.mem_cons_of_mem _ (List.mem_append_left _ (List.mem_of_getElem? (i := 7) rfl))) (List.mem_cons_of_mem _ (List.mem_append_left _ (List.mem_of_getElem? (i := 8) rfl))) (List.mem_cons_of_mem _ (List.mem_append_left _ (List.mem_of_getElem? (i := 9) rfl))) (List.mem_cons_of_mem _ (List.mem_append_left _ (List.mem_of_getElem? (i := 3) rfl))) (gi_sub (fun w h => (List.mem_cons_of_mem _ (List.mem_append_right _ (List.mem_append_right _ (List.mem_append_right _ (List.mem_append_right _ (List.mem_append_left _ h))))))) zg_j151_X12_copies)) rfl rfl rfl (by decide +kernel) ⟨Nat.le_of_ble_eq_true rfl, Nat.le_of_ble_eq_true rfl⟩ 0 rfl rfl rfl rfl (Nat.le_of_ble_eq_true rfl) ⟨Nat.le_of_ble_eq_true rfl, Nat.le_of_ble_eq_true rfl⟩ dX12_mend_41 (fun v ty' w' hp hk' => ?_)
          obtain ⟨I28444, A28444, L28444, hI28444, hA28444, hV28444, r28445, r28446, hL28444, hC, rfl, rfl⟩ := hp
          replace hF := FE.bdM hF hC
          have f28447 := IvM_s17_0 hIv
          have f28448 := IvM_s17_164 hIv
          show GW κ 2 0 0 (wM r g I28444 A28444 L28444) 44 [(0, .ref (r 0)), (1, .int z1)] []
          refine g_aload_n hk dX12_mend_44 rfl ?_
          refine gM_r0_36 hk hin12 (List.mem_cons_of_mem _ (List.mem_append_left _ (List.mem_of_getElem? (i := 10) rfl))) dX12_mend_45 ?_
          refine g_iconst (v := 1) hk dX12_mend_48 (by decide) ?_
          refine g_iload_n hk dX12_mend_49 rfl ?_
          refine g_iadd hk dX12_mend_50 ?_
          refine g_topi (fun y28449 ey28449 => ?_)
          replace hF := FE.lt hF ey28449
          have hy28449 : y28449.toInt = 1 + z1.toInt := i32_add ey28449 rfl rfl (by omega) (by omega)
          refine g_aload_n hk dX12_mend_51 rfl ?_
          refine gM_r0_36 hk hin12 (List.mem_cons_of_mem _ (List.mem_append_left _ (List.mem_of_getElem? (i := 10) rfl))) dX12_mend_52 ?_
          refine g_iload_n hk dX12_mend_55 rfl ?_
          refine lM_18 (v := (A28444 18 z1.toNatClampNeg)) hk (vp_in_iff.mpr ⟨by omega, by omega⟩) rfl dX12_mend_56 ?_
          refine g_aload_n hk dX12_mend_57 rfl ?_
          refine gM_r0_36 hk hin12 (List.mem_cons_of_mem _ (List.mem_append_left _ (List.mem_of_getElem? (i := 10) rfl))) dX12_mend_58 ?_
          refine g_iconst (v := 2) hk dX12_mend_61 (by decide) ?_
          refine g_iload_n hk dX12_mend_62 rfl ?_
          refine g_iadd hk dX12_mend_63 ?_
          refine g_topi (fun y28450 ey28450 => ?_)
          replace hF := FE.lt hF ey28450
          have hy28450 : y28450.toInt = 2 + z1.toInt := i32_add ey28450 rfl rfl (by omega) (by omega)
          refine lM_18 (v := (A28444 18 y28450.toNatClampNeg)) hk (vp_in_iff.mpr ⟨by omega, by omega⟩) rfl dX12_mend_64 ?_
          have b28451l := Int32.le_toInt (A28444 18 z1.toNatClampNeg)
          have b28451h := Int32.toInt_lt (A28444 18 z1.toNatClampNeg)
          have b28452l := Int32.le_toInt (A28444 18 y28450.toNatClampNeg)
          have b28452h := Int32.toInt_lt (A28444 18 y28450.toNatClampNeg)
          refine g_iadd hk dX12_mend_65 ?_
          refine g_topi (fun y28453 ey28453 => ?_)
          replace hF := FE.lt hF ey28453
          refine g_iconst (v := 2) hk dX12_mend_66 (by decide) ?_
          have k28463 : (2 : Int32).toInt = 2 := rfl
          refine g_callS (n := 2) hk (j155_X12_downBy l D zt r g I28444 A28444 L28444 y28453 2 hV28444 (by decide)) (SP.same _) (fun _ h => h) (gi_S (List.mem_cons_of_mem _ (List.mem_append_left _ (List.mem_of_getElem? (i := 11) rfl))) (List.mem_cons_of_mem _ (List.mem_append_left _ (List.mem_of_getElem? (i := 12) rfl))) (List.mem_cons_of_mem _ (List.mem_append_left _ (List.mem_of_getElem? (i := 3) rfl))) (gi_sub (fun w h => (List.mem_cons_of_mem _ (List.mem_append_right _ (List.mem_append_right _ (List.mem_append_right _ (List.mem_append_right _ (List.mem_append_right _ (List.mem_append_left _ h)))))))) zg_j155_X12_downBy)) rfl rfl rfl (by decide +kernel) ⟨Nat.le_of_ble_eq_true rfl, Nat.le_of_ble_eq_true rfl⟩ rfl rfl (Nat.le_of_ble_eq_true rfl) ⟨Nat.le_of_ble_eq_true rfl, Nat.le_of_ble_eq_true rfl⟩ dX12_mend_67 (fun v ty' w' hp hk' => ?_)
          obtain ⟨y28464, hC, rfl, rfl⟩ := hp
          replace hF := FE.lt hF (fe_s hC)
          show GW κ 2 0 0 (wM r g I28444 A28444 L28444) 70 [(0, .ref (r 0)), (1, .int z1)] [.int y28464, .int y28449, .ref (r 19)]
          refine sM_18 (j := y28449.toNatClampNeg) hk (vp_in_iff.mpr ⟨by omega, by omega⟩) rfl dX12_mend_70 ?_
          have hS28465 : (up3 A28444 18 (y28449.toNatClampNeg) y28464) 18 0 = (A28444 18 0) := (up3_ne (by have := cl_int (y := y28449) (by omega); omega)).trans (show A28444 18 0 = (A28444 18 0) from rfl)
          have hS28466 : (up3 A28444 18 (y28449.toNatClampNeg) y28464) 18 164 = (A28444 18 164) := (up3_ne (by have := cl_int (y := y28449) (by omega); omega)).trans (show A28444 18 164 = (A28444 18 164) from rfl)
          refine g_aload_n hk dX12_mend_71 rfl ?_
          refine g_callV (n := 0) hk (j152_X12_records l D zt r g I28444 (up3 A28444 18 (y28449.toNatClampNeg) y28464) L28444  ⟨(IvM_f1 (I := I28444) (A := A28444) hV28444), (IvM_f2 (I := I28444) (A := A28444) hV28444), (IvM_f3 (I := I28444) (A := A28444) hV28444), (IvM_f4 (I := I28444) (A := A28444) hV28444), (IvM_f6 (I := I28444) (A := A28444) hV28444), (IvM_f8 (I := I28444) (A := A28444) hV28444), (IvM_f15 (I := I28444) (A := A28444) hV28444), (IvM_f16 (I := I28444) (A := A28444) hV28444), (IvM_f17 (I := I28444) (A := A28444) hV28444), (IvM_f18 (I := I28444) (A := A28444) hV28444), (IvM_f22 (I := I28444) (A := A28444) hV28444), (IvM_f23 (I := I28444) (A := A28444) hV28444), (IvM_f24 (I := I28444) (A := A28444) hV28444), (IvM_a11 (I := I28444) (A := A28444) hV28444), (IvM_a26 (I := I28444) (A := A28444) hV28444), (IvM_s8_0 (I := I28444) (A := A28444) hV28444), (IvM_s8_1 (I := I28444) (A := A28444) hV28444), (IvM_s10_0 (I := I28444) (A := A28444) hV28444), (IvM_s10_1 (I := I28444) (A := A28444) hV28444), (IvM_s17_0 (I := I28444) (A := A28444) hV28444), (IvM_s17_164 (I := I28444) (A := A28444) hV28444), (IvM_lv (I := I28444) (A := A28444) hV28444), (IvM_sd (I := I28444) (A := A28444) hV28444), (IvM_nq (I := I28444) (A := A28444) hV28444), (IvM_hr (I := I28444) (A := A28444) hV28444), (IvM_hh (I := I28444) (A := A28444) hV28444), trivial⟩ (by first | (rw [show ((up3 A28444 18 (y28449.toNatClampNeg) y28464) 18 0) = (A28444 18 0) from hS28465] <;> omega) | omega) (by first | (rw [show ((up3 A28444 18 (y28449.toNatClampNeg) y28464) 18 0) = (A28444 18 0) from hS28465] <;> omega) | omega) (by first | (rw [show ((up3 A28444 18 (y28449.toNatClampNeg) y28464) 18 164) = (A28444 18 164) from hS28466] <;> omega) | omega)) (SP.same _) (fun _ h => h) (gi_V (List.mem_cons_of_mem _ (List.mem_append_left _ (List.mem_of_getElem? (i := 13) rfl))) (List.mem_cons_of_mem _ (List.mem_append_left _ (List.mem_of_getElem? (i := 14) rfl))) (List.mem_cons_of_mem _ (List.mem_append_left _ (List.mem_of_getElem? (i := 15) rfl))) (List.mem_cons_of_mem _ (List.mem_append_left _ (List.mem_of_getElem? (i := 3) rfl))) (gi_sub (fun w h => (List.mem_cons_of_mem _ (List.mem_append_right _ (List.mem_append_right _ (List.mem_append_right _ (List.mem_append_right _ (List.mem_append_right _ (List.mem_append_right _ (List.mem_append_left _ h))))))))) zg_j152_X12_records)) rfl rfl rfl (by decide +kernel) ⟨Nat.le_of_ble_eq_true rfl, Nat.le_of_ble_eq_true rfl⟩ 0 rfl rfl rfl rfl (Nat.le_of_ble_eq_true rfl) ⟨Nat.le_of_ble_eq_true rfl, Nat.le_of_ble_eq_true rfl⟩ dX12_mend_72 (fun v ty' w' hp hk' => ?_)
          obtain ⟨I28468, A28468, L28468, hI28468, hA28468, hV28468, hL28468, hC, rfl, rfl⟩ := hp
          replace hF := FE.bdM hF hC
          show GW κ 2 0 0 (wM r g I28468 A28468 L28468) 75 [(0, .ref (r 0)), (1, .int z1)] []
          refine g_aload_n hk dX12_mend_75 rfl ?_
          refine gM_r0_35 hk hin12 (List.mem_cons_of_mem _ (List.mem_append_left _ (List.mem_of_getElem? (i := 16) rfl))) dX12_mend_76 ?_
          refine g_iconst (v := 1) hk dX12_mend_79 (by decide) ?_
          refine g_iload_n hk dX12_mend_80 rfl ?_
          refine g_iadd hk dX12_mend_81 ?_
          refine g_topi (fun y28469 ey28469 => ?_)
          replace hF := FE.lt hF ey28469
          have hy28469 : y28469.toInt = 1 + z1.toInt := i32_add ey28469 rfl rfl (by omega) (by omega)
          refine lM_17 (v := (A28468 17 y28469.toNatClampNeg)) hk (vp_in_iff.mpr ⟨by omega, by omega⟩) rfl dX12_mend_82 ?_
          have b28470l := Int32.le_toInt (A28468 17 y28469.toNatClampNeg)
          have b28470h := Int32.toInt_lt (A28468 17 y28469.toNatClampNeg)
          exact g_iret hk hR rfl ⟨I28468, A28468, L28468, (show Md [22] I I28468 from (Md.tr (Md.tr Md.rf hI28444 rfl) hI28468 rfl)), (show Md [17, 18, 22] A A28468 from (Md.tr (Md.up3 (Md.tr Md.rf hA28444 rfl) rfl) hA28468 rfl)), hV28468, (A28468 17 y28469.toNatClampNeg), (show L28468 = L from (hL28468.trans hL28444)), hF, rfl, rfl⟩ dX12_mend_83
    · skip
      replace hF := FE.neg hF (fe_ne hC (by decide))
      show GW κ 2 0 0 (wM r g I A L) 13 [(0, .ref (r 0)), (1, .int z1)] [.int 1]
      refine g_if_ne (tgt := 36) (a := 1) hk dX12_mend_13 (by decide) rfl (fun _ => ?_) (fun z9 => absurd (show (1 : Int) ≠ (0 : Int) from by decide) z9)
      refine g_sipush (v := (-1000)) hk dX12_mend_36 (by decide) ?_
      exact g_iret hk hR rfl ⟨I, A, L, (show Md [22] I I from Md.rf), (show Md [17, 18, 22] A A from Md.rf), hIv, (-1000), (show L = L from rfl), hF, rfl, rfl⟩ dX12_mend_39
noncomputable def bM12_drop_22 (z1 : Int32) (A : Nat → Nat → Int32) : (Int32 → (Nat → Int32) → (Nat → Nat → Int32) → (Nat → Nat → Int64) → (Int32 × (Nat → Int32) × (Nat → Nat → Int32) × (Nat → Nat → Int64))) → Int32 → (Nat → Int32) → (Nat → Nat → Int32) → (Nat → Nat → Int64) → (Int32 × (Nat → Int32) × (Nat → Nat → Int32) × (Nat → Nat → Int64)) := fun kk28544 x28484 I28487 A28487 L28487 => if 160 ≤ x28484.toInt then f_lt ((A28487 18 0) - z1) fun y28547 => f_bdM (fM12_records I28487 (up3 A28487 18 0 y28547) L28487) fun _ I28549 A28549 L28549 => (1, I28549, A28549, L28549) else f_lt ((1 : Int32) + x28484) fun y28550 => f_lt (x28484 + z1) fun y28551 => if (A 17 0).toInt ≤ y28551.toInt then f_lt (x28484 + Int32.ofInt 1) fun y28556 => kk28544 y28556 I28487 (up3 A28487 18 (y28550.toNatClampNeg) 0) L28487 else f_lt ((1 : Int32) + x28484) fun y28557 => f_lt (y28557 + z1) fun y28558 => f_lt (x28484 + Int32.ofInt 1) fun y28561 => kk28544 y28561 I28487 (up3 A28487 18 (y28550.toNatClampNeg) (A 17 y28558.toNatClampNeg)) L28487
noncomputable def fM12_drop (I : Nat → Int32) (A : Nat → Nat → Int32) (L : Nat → Nat → Int64) (z1 : Int32) : Int32 × (Nat → Int32) × (Nat → Nat → Int32) × (Nat → Nat → Int64) := if fM12_in I A L z1 1 (A 17 0) = 0 then (0, I, A, L) else f_bdM (fM12_copies I A L) fun _ I28480 A28480 L28480 => itr_iIAL dfM (bM12_drop_22 z1 A) FU 0 I28480 A28480 L28480
def wo_j156_X12_drop : List Cond := [Cond.fieldLink RX12 70 "WarpDeskModel" "now" "[I", Cond.methodLink RX12 244 yX12_in, Cond.static yX12_in, Cond.initialized RX12, Cond.methodLink RX12 323 yX12_copies, Cond.instanceMethod yX12_copies, Cond.selects RX12 yX12_copies yX12_copies, Cond.fieldLink RX12 73 "WarpDeskModel" "row" "[I", Cond.methodLink RX12 326 yX12_records, Cond.instanceMethod yX12_records, Cond.selects RX12 yX12_records yX12_records]
def wz_j156_X12_drop : List Cond := .code yX12_drop cX12_drop 3 (some .boolean) :: (wo_j156_X12_drop ++ (wsX120 ++ (wz_j145_X12_in ++ (wz_j151_X12_copies ++ (wz_j152_X12_records ++ ([] : List Cond))))))
theorem zg_j156_X12_drop : ∀ w ∈ wz_j156_X12_drop, goodWord w = true := zg_cons rfl (zg_app (by decide +kernel) (zg_app zgU_wsX120 (zg_app zg_j145_X12_in (zg_app zg_j151_X12_copies (zg_app zg_j152_X12_records zg_nil)))))
theorem zi_j156_X12_drop : ∀ w ∈ wz_j156_X12_drop, w ∈ lw_tbl := zi_cons zw_1701 (zi_app (zi_cons zw_1413 (zi_cons zw_1656 (zi_cons zw_1657 (zi_cons zw_115 (zi_cons zw_1679 (zi_cons zw_1681 (zi_cons zw_70 (zi_cons zw_1414 (zi_cons zw_1683 (zi_cons zw_1685 (zi_cons zw_71 zi_nil))))))))))) (zi_app inX12 (zi_app zi_j145_X12_in (zi_app zi_j151_X12_copies (zi_app zi_j152_X12_records zi_nil)))))
set_option maxHeartbeats 4000000 in
set_option maxRecDepth 100000 in
theorem j156_X12_drop (l : Launch) (D : va_G) (zt : Nat × Nat × Nat × (Nat → Nat) × (Nat → Nat)) (r : Nat → Nat) (g : Nat → ClassId) (I : Nat → Int32) (A : Nat → Nat → Int32) (L : Nat → Nat → Int64) (z1 : Int32) (hIv : IvM I A) : GM l D zt (tyM g) yX12_drop wz_j156_X12_drop ({ frames := 2, cells := 0, slots := 0, locals := 42 } : Room) [.ref (r 0), .int z1] (wM r g I A L) (fun v _ w' => ∃ (I' : Nat → Int32) (A' : Nat → Nat → Int32) (L' : Nat → Nat → Int64), Md [22] I I' ∧ Md [17, 18, 22] A A' ∧ IvM I' A' ∧ ∃ y0 : Int32, (L' = L) ∧ (0 ≤ y0.toInt) ∧ (y0.toInt ≤ 1) ∧ FE (fM12_drop I A L z1) (y0, I', A', L') ∧ v = some (.int y0) ∧ w' = wM r g I' A' L') 0 0 := by
  refine GM.of (cc := cX12_drop) (maxL := 3) (ret := (some .boolean)) (own := RX12) (lv := [(0, .ref (r 0)), (1, .int z1)]) (by decide) rfl rfl (Nat.le_of_ble_eq_true rfl) rfl (fun κ sz hk hR hN => ?_)
  have hin12 : ∀ w ∈ u_ws RX12 TX12 55, w ∈ wz_j156_X12_drop := fun w h => (List.mem_cons_of_mem _ (List.mem_append_right _ (List.mem_append_left _ h)))
  have hF : FE (fM12_drop I A L z1) (fM12_drop I A L z1) := FE.rf
  refine g_iload_n hk dX12_drop_0 rfl ?_
  refine g_iconst (v := 1) hk dX12_drop_1 (by decide) ?_
  refine g_aload_n hk dX12_drop_2 rfl ?_
  refine gM_r0_35 hk hin12 (List.mem_cons_of_mem _ (List.mem_append_left _ (List.mem_of_getElem? (i := 0) rfl))) dX12_drop_3 ?_
  refine g_iconst (v := 0) hk dX12_drop_6 (by decide) ?_
  refine lM_17 (v := (A 17 0)) hk (vp_in_iff.mpr ⟨by decide, by decide⟩) rfl dX12_drop_7 ?_
  have f28471 := IvM_s17_0 hIv
  have k28472 : (1 : Int32).toInt = 1 := rfl
  refine g_callS (n := 3) hk (j145_X12_in l D zt r g I A L z1 1 (A 17 0) hIv) (SP.same _) (fun _ h => h) (gi_S (List.mem_cons_of_mem _ (List.mem_append_left _ (List.mem_of_getElem? (i := 1) rfl))) (List.mem_cons_of_mem _ (List.mem_append_left _ (List.mem_of_getElem? (i := 2) rfl))) (List.mem_cons_of_mem _ (List.mem_append_left _ (List.mem_of_getElem? (i := 3) rfl))) (gi_sub (fun w h => (List.mem_cons_of_mem _ (List.mem_append_right _ (List.mem_append_right _ (List.mem_append_left _ h))))) zg_j145_X12_in)) rfl rfl rfl (by decide +kernel) ⟨Nat.le_of_ble_eq_true rfl, Nat.le_of_ble_eq_true rfl⟩ rfl rfl (Nat.le_of_ble_eq_true rfl) ⟨Nat.le_of_ble_eq_true rfl, Nat.le_of_ble_eq_true rfl⟩ dX12_drop_8 (fun v ty' w' hp hk' => ?_)
  rcases hp with ⟨c28473, hC, rfl, rfl⟩ | ⟨c28475, c28476, hC, rfl, rfl⟩
  · skip
    replace hF := FE.pos hF hC
    have b28478l := Int32.le_toInt z1
    have b28478h := Int32.toInt_lt z1
    show GW κ 3 0 0 (wM r g I A L) 11 [(0, .ref (r 0)), (1, .int z1)] [.int 0]
    refine g_if_ne (tgt := 16) (a := 0) hk dX12_drop_11 (by decide) rfl (fun z9 => absurd z9 (show ¬ ((0 : Int) ≠ (0 : Int)) from by decide)) (fun _ => ?_)
    refine g_iconst (v := 0) hk dX12_drop_14 (by decide) ?_
    exact g_iret hk hR rfl ⟨I, A, L, (show Md [22] I I from Md.rf), (show Md [17, 18, 22] A A from Md.rf), hIv, 0, (show L = L from rfl), (by decide), (by decide), hF, rfl, rfl⟩ dX12_drop_15
  · skip
    replace hF := FE.neg hF (fe_ne hC (by decide))
    show GW κ 3 0 0 (wM r g I A L) 11 [(0, .ref (r 0)), (1, .int z1)] [.int 1]
    refine g_if_ne (tgt := 16) (a := 1) hk dX12_drop_11 (by decide) rfl (fun _ => ?_) (fun z9 => absurd (show (1 : Int) ≠ (0 : Int) from by decide) z9)
    refine g_aload_n hk dX12_drop_16 rfl ?_
    refine g_callV (n := 0) hk (j151_X12_copies l D zt r g I A L  hIv) (SP.same _) (fun _ h => h) (gi_V (List.mem_cons_of_mem _ (List.mem_append_left _ (List.mem_of_getElem? (i := 4) rfl))) (List.mem_cons_of_mem _ (List.mem_append_left _ (List.mem_of_getElem? (i := 5) rfl))) (List.mem_cons_of_mem _ (List.mem_append_left _ (List.mem_of_getElem? (i := 6) rfl))) (List.mem_cons_of_mem _ (List.mem_append_left _ (List.mem_of_getElem? (i := 3) rfl))) (gi_sub (fun w h => (List.mem_cons_of_mem _ (List.mem_append_right _ (List.mem_append_right _ (List.mem_append_right _ (List.mem_append_left _ h)))))) zg_j151_X12_copies)) rfl rfl rfl (by decide +kernel) ⟨Nat.le_of_ble_eq_true rfl, Nat.le_of_ble_eq_true rfl⟩ 0 rfl rfl rfl rfl (Nat.le_of_ble_eq_true rfl) ⟨Nat.le_of_ble_eq_true rfl, Nat.le_of_ble_eq_true rfl⟩ dX12_drop_17 (fun v ty' w' hp hk' => ?_)
    obtain ⟨I28480, A28480, L28480, hI28480, hA28480, hV28480, r28481, r28482, hL28480, hC, rfl, rfl⟩ := hp
    replace hF := FE.bdM hF hC
    have f28483 := IvM_s17_164 hIv
    show GW κ 3 0 0 (wM r g I28480 A28480 L28480) 20 [(0, .ref (r 0)), (1, .int z1)] []
    refine g_iconst (v := 0) hk dX12_drop_20 (by decide) ?_
    refine g_istore_n (lv' := [(2, .int 0), (0, .ref (r 0)), (1, .int z1)]) hk dX12_drop_21 (by decide) rfl ?_
    have lp28541 : ∀ (n28542 : Nat) (x28484 : Int32) (I28487 : Nat → Int32) (A28487 : Nat → Nat → Int32) (L28487 : Nat → Nat → Int64), (Md [] I28480 I28487) → (Md [18] A28480 A28487) → (IvM I28487 A28487) → (L28487 = L28480) → (0 ≤ x28484.toInt) → (x28484.toInt ≤ 160) → ((A28487 18 0).toInt = (A 17 0).toInt) → ((A28487 18 164).toInt = (A 17 164).toInt) → (161 - x28484.toInt < (n28542 : Int)) → (0 < n28542) → (FE (fM12_drop I A L z1) (itr_iIAL dfM (bM12_drop_22 z1 A) n28542 x28484 I28487 A28487 L28487)) → GW κ 3 0 0 (wM r g I28487 A28487 L28487) 22 [(2, .int x28484), (0, .ref (r 0)), (1, .int z1)] [] := by
      intro n28542
      induction n28542 with
      | zero =>
        intro x28484 I28487 A28487 L28487 hI28487 hA28487 hV28487 hL28487 h28537 h28538 h28539 h28540 m28543 m28543z hF
        exact absurd m28543z (Nat.lt_irrefl 0)
      | succ n28542 ih28545 =>
        intro x28484 I28487 A28487 L28487 hI28487 hA28487 hV28487 hL28487 h28537 h28538 h28539 h28540 m28543 m28543z hF
        replace hF := FE.itr_iIAL hF
        refine g_iload_n hk dX12_drop_22 rfl ?_
        refine g_sipush (v := 160) hk dX12_drop_23 (by decide) ?_
        refine g_icmp_ge (tgt := 69) (a := x28484.toInt) (b := 160) hk dX12_drop_26 (by decide) rfl rfl (fun c28546 => ?_) (fun c28546 => ?_)
        · skip
          replace hF := FE.pos hF c28546
          refine g_aload_n hk dX12_drop_69 rfl ?_
          refine gM_r0_36 hk hin12 (List.mem_cons_of_mem _ (List.mem_append_left _ (List.mem_of_getElem? (i := 7) rfl))) dX12_drop_70 ?_
          refine g_iconst (v := 0) hk dX12_drop_73 (by decide) ?_
          refine g_dup2 hk dX12_drop_74 rfl rfl ?_
          refine lM_18 (v := (A28487 18 0)) hk (vp_in_iff.mpr ⟨by decide, by decide⟩) rfl dX12_drop_75 ?_
          refine g_iload_n hk dX12_drop_76 rfl ?_
          refine g_isub hk dX12_drop_77 ?_
          refine g_topi (fun y28547 ey28547 => ?_)
          replace hF := FE.lt hF ey28547
          have hy28547 : y28547.toInt = (A28487 18 0).toInt - z1.toInt := i32_sub ey28547 rfl rfl (by omega) (by omega)
          refine sM_18 (j := 0) hk (vp_in_iff.mpr ⟨by decide, by decide⟩) (by decide) dX12_drop_78 ?_
          refine g_aload_n hk dX12_drop_79 rfl ?_
          refine g_callV (n := 0) hk (j152_X12_records l D zt r g I28487 (up3 A28487 18 0 y28547) L28487  ⟨(IvM_f1 (I := I28487) (A := A28487) hV28487), (IvM_f2 (I := I28487) (A := A28487) hV28487), (IvM_f3 (I := I28487) (A := A28487) hV28487), (IvM_f4 (I := I28487) (A := A28487) hV28487), (IvM_f6 (I := I28487) (A := A28487) hV28487), (IvM_f8 (I := I28487) (A := A28487) hV28487), (IvM_f15 (I := I28487) (A := A28487) hV28487), (IvM_f16 (I := I28487) (A := A28487) hV28487), (IvM_f17 (I := I28487) (A := A28487) hV28487), (IvM_f18 (I := I28487) (A := A28487) hV28487), (IvM_f22 (I := I28487) (A := A28487) hV28487), (IvM_f23 (I := I28487) (A := A28487) hV28487), (IvM_f24 (I := I28487) (A := A28487) hV28487), (IvM_a11 (I := I28487) (A := A28487) hV28487), (IvM_a26 (I := I28487) (A := A28487) hV28487), (IvM_s8_0 (I := I28487) (A := A28487) hV28487), (IvM_s8_1 (I := I28487) (A := A28487) hV28487), (IvM_s10_0 (I := I28487) (A := A28487) hV28487), (IvM_s10_1 (I := I28487) (A := A28487) hV28487), (IvM_s17_0 (I := I28487) (A := A28487) hV28487), (IvM_s17_164 (I := I28487) (A := A28487) hV28487), (IvM_lv (I := I28487) (A := A28487) hV28487), (IvM_sd (I := I28487) (A := A28487) hV28487), (IvM_nq (I := I28487) (A := A28487) hV28487), (IvM_hr (I := I28487) (A := A28487) hV28487), (IvM_hh (I := I28487) (A := A28487) hV28487), trivial⟩ (by first | (rw [show ((up3 A28487 18 0 y28547) 18 0) = y28547 from rfl] <;> omega) | omega) (by first | (rw [show ((up3 A28487 18 0 y28547) 18 0) = y28547 from rfl] <;> omega) | omega) (by first | (rw [show ((up3 A28487 18 0 y28547) 18 164) = (A28487 18 164) from rfl] <;> omega) | omega)) (SP.same _) (fun _ h => h) (gi_V (List.mem_cons_of_mem _ (List.mem_append_left _ (List.mem_of_getElem? (i := 8) rfl))) (List.mem_cons_of_mem _ (List.mem_append_left _ (List.mem_of_getElem? (i := 9) rfl))) (List.mem_cons_of_mem _ (List.mem_append_left _ (List.mem_of_getElem? (i := 10) rfl))) (List.mem_cons_of_mem _ (List.mem_append_left _ (List.mem_of_getElem? (i := 3) rfl))) (gi_sub (fun w h => (List.mem_cons_of_mem _ (List.mem_append_right _ (List.mem_append_right _ (List.mem_append_right _ (List.mem_append_right _ (List.mem_append_left _ h))))))) zg_j152_X12_records)) rfl rfl rfl (by decide +kernel) ⟨Nat.le_of_ble_eq_true rfl, Nat.le_of_ble_eq_true rfl⟩ 0 rfl rfl rfl rfl (Nat.le_of_ble_eq_true rfl) ⟨Nat.le_of_ble_eq_true rfl, Nat.le_of_ble_eq_true rfl⟩ dX12_drop_80 (fun v ty' w' hp hk' => ?_)
          obtain ⟨I28549, A28549, L28549, hI28549, hA28549, hV28549, hL28549, hC, rfl, rfl⟩ := hp
          replace hF := FE.bdM hF hC
          show GW κ 3 0 0 (wM r g I28549 A28549 L28549) 83 [(2, .int x28484), (0, .ref (r 0)), (1, .int z1)] []
          refine g_iconst (v := 1) hk dX12_drop_83 (by decide) ?_
          exact g_iret hk hR rfl ⟨I28549, A28549, L28549, (show Md [22] I I28549 from (Md.tr (Md.tr (Md.tr Md.rf hI28480 rfl) hI28487 rfl) hI28549 rfl)), (show Md [17, 18, 22] A A28549 from (Md.tr (Md.up3 (Md.tr (Md.tr Md.rf hA28480 rfl) hA28487 rfl) rfl) hA28549 rfl)), hV28549, 1, (show L28549 = L from (hL28549.trans (hL28487.trans hL28480))), (by decide), (by decide), hF, rfl, rfl⟩ dX12_drop_84
        · skip
          replace hF := FE.neg hF c28546
          refine g_aload_n hk dX12_drop_29 rfl ?_
          refine gM_r0_36 hk hin12 (List.mem_cons_of_mem _ (List.mem_append_left _ (List.mem_of_getElem? (i := 7) rfl))) dX12_drop_30 ?_
          refine g_iconst (v := 1) hk dX12_drop_33 (by decide) ?_
          refine g_iload_n hk dX12_drop_34 rfl ?_
          refine g_iadd hk dX12_drop_35 ?_
          refine g_topi (fun y28550 ey28550 => ?_)
          replace hF := FE.lt hF ey28550
          have hy28550 : y28550.toInt = 1 + x28484.toInt := i32_add ey28550 rfl rfl (by omega) (by omega)
          refine g_iload_n hk dX12_drop_36 rfl ?_
          refine g_iload_n hk dX12_drop_37 rfl ?_
          refine g_iadd hk dX12_drop_38 ?_
          refine g_topi (fun y28551 ey28551 => ?_)
          replace hF := FE.lt hF ey28551
          have hy28551 : y28551.toInt = x28484.toInt + z1.toInt := i32_add ey28551 rfl rfl (by omega) (by omega)
          refine g_aload_n hk dX12_drop_39 rfl ?_
          refine gM_r0_35 hk hin12 (List.mem_cons_of_mem _ (List.mem_append_left _ (List.mem_of_getElem? (i := 0) rfl))) dX12_drop_40 ?_
          refine g_iconst (v := 0) hk dX12_drop_43 (by decide) ?_
          refine lM_17 (v := (A 17 0)) hk (vp_in_iff.mpr ⟨by decide, by decide⟩) ((congrFun (hA28487 17 rfl) _).trans (congrFun (hA28480 17 rfl) _)) dX12_drop_44 ?_
          refine g_icmp_ge (tgt := 61) (a := y28551.toInt) (b := (A 17 0).toInt) hk dX12_drop_45 (by decide) rfl rfl (fun c28552 => ?_) (fun c28552 => ?_)
          · skip
            replace hF := FE.pos hF c28552
            refine g_iconst (v := 0) hk dX12_drop_61 (by decide) ?_
            have k28553 : (0 : Int32).toInt = 0 := rfl
            refine sM_18 (j := y28550.toNatClampNeg) hk (vp_in_iff.mpr ⟨by omega, by omega⟩) rfl dX12_drop_62 ?_
            have hS28554 : (up3 A28487 18 (y28550.toNatClampNeg) 0) 18 0 = (A28487 18 0) := (up3_ne (by have := cl_int (y := y28550) (by omega); omega)).trans (show A28487 18 0 = (A28487 18 0) from rfl)
            have hS28555 : (up3 A28487 18 (y28550.toNatClampNeg) 0) 18 164 = (A28487 18 164) := (up3_ne (by have := cl_int (y := y28550) (by omega); omega)).trans (show A28487 18 164 = (A28487 18 164) from rfl)
            obtain ⟨y28556, ey28556⟩ : ∃ y : Int32, y = x28484 + Int32.ofInt 1 := ⟨_, rfl⟩
            replace hF := FE.lt hF ey28556
            have hy28556 : y28556.toInt = x28484.toInt + 1 := i32_add ey28556 rfl (by decide) (by omega) (by omega)
            refine g_iinc (v := y28556) (lv' := [(2, .int y28556), (0, .ref (r 0)), (1, .int z1)]) hk 0 dX12_drop_63 rfl ey28556.symm (by decide) rfl ?_
            refine g_goto (tgt := 22) hk dX12_drop_66 (by decide) ?_
            exact g_lv (List.forall_mem_cons.mpr ⟨List.mem_of_getElem? (i := 0) rfl, (List.forall_mem_cons.mpr ⟨List.mem_of_getElem? (i := 1) rfl, (List.forall_mem_cons.mpr ⟨List.mem_of_getElem? (i := 2) rfl, (fun _ h => absurd h List.not_mem_nil)⟩)⟩)⟩) (ih28545 y28556 I28487 (up3 A28487 18 (y28550.toNatClampNeg) 0) L28487 (show Md [] I28480 I28487 from Md.tr hI28487 (show Md [] I28487 I28487 from Md.rf) rfl) (show Md [18] A28480 (up3 A28487 18 (y28550.toNatClampNeg) 0) from Md.tr hA28487 (show Md [18] A28487 (up3 A28487 18 (y28550.toNatClampNeg) 0) from (Md.up3 Md.rf rfl)) rfl) ⟨(IvM_f1 (I := I28487) (A := A28487) hV28487), (IvM_f2 (I := I28487) (A := A28487) hV28487), (IvM_f3 (I := I28487) (A := A28487) hV28487), (IvM_f4 (I := I28487) (A := A28487) hV28487), (IvM_f6 (I := I28487) (A := A28487) hV28487), (IvM_f8 (I := I28487) (A := A28487) hV28487), (IvM_f15 (I := I28487) (A := A28487) hV28487), (IvM_f16 (I := I28487) (A := A28487) hV28487), (IvM_f17 (I := I28487) (A := A28487) hV28487), (IvM_f18 (I := I28487) (A := A28487) hV28487), (IvM_f22 (I := I28487) (A := A28487) hV28487), (IvM_f23 (I := I28487) (A := A28487) hV28487), (IvM_f24 (I := I28487) (A := A28487) hV28487), (IvM_a11 (I := I28487) (A := A28487) hV28487), (IvM_a26 (I := I28487) (A := A28487) hV28487), (IvM_s8_0 (I := I28487) (A := A28487) hV28487), (IvM_s8_1 (I := I28487) (A := A28487) hV28487), (IvM_s10_0 (I := I28487) (A := A28487) hV28487), (IvM_s10_1 (I := I28487) (A := A28487) hV28487), (IvM_s17_0 (I := I28487) (A := A28487) hV28487), (IvM_s17_164 (I := I28487) (A := A28487) hV28487), (IvM_lv (I := I28487) (A := A28487) hV28487), (IvM_sd (I := I28487) (A := A28487) hV28487), (IvM_nq (I := I28487) (A := A28487) hV28487), (IvM_hr (I := I28487) (A := A28487) hV28487), (IvM_hh (I := I28487) (A := A28487) hV28487), trivial⟩ (show L28487 = L28480 from hL28487) (by omega) (by omega) (by first | (rw [show ((up3 A28487 18 (y28550.toNatClampNeg) 0) 18 0) = (A28487 18 0) from hS28554] <;> omega) | omega) (by first | (rw [show ((up3 A28487 18 (y28550.toNatClampNeg) 0) 18 164) = (A28487 18 164) from hS28555] <;> omega) | omega) (by omega) (by omega) hF)
          · skip
            replace hF := FE.neg hF c28552
            refine g_aload_n hk dX12_drop_48 rfl ?_
            refine gM_r0_35 hk hin12 (List.mem_cons_of_mem _ (List.mem_append_left _ (List.mem_of_getElem? (i := 0) rfl))) dX12_drop_49 ?_
            refine g_iconst (v := 1) hk dX12_drop_52 (by decide) ?_
            refine g_iload_n hk dX12_drop_53 rfl ?_
            refine g_iadd hk dX12_drop_54 ?_
            refine g_topi (fun y28557 ey28557 => ?_)
            replace hF := FE.lt hF ey28557
            have hy28557 : y28557.toInt = 1 + x28484.toInt := i32_add ey28557 rfl rfl (by omega) (by omega)
            refine g_iload_n hk dX12_drop_55 rfl ?_
            refine g_iadd hk dX12_drop_56 ?_
            refine g_topi (fun y28558 ey28558 => ?_)
            replace hF := FE.lt hF ey28558
            have hy28558 : y28558.toInt = y28557.toInt + z1.toInt := i32_add ey28558 rfl rfl (by omega) (by omega)
            refine lM_17 (v := (A 17 y28558.toNatClampNeg)) hk (vp_in_iff.mpr ⟨by omega, by omega⟩) ((congrFun (hA28487 17 rfl) _).trans (congrFun (hA28480 17 rfl) _)) dX12_drop_57 ?_
            refine g_goto (tgt := 62) hk dX12_drop_58 (by decide) ?_
            refine sM_18 (j := y28550.toNatClampNeg) hk (vp_in_iff.mpr ⟨by omega, by omega⟩) rfl dX12_drop_62 ?_
            have hS28559 : (up3 A28487 18 (y28550.toNatClampNeg) (A 17 y28558.toNatClampNeg)) 18 0 = (A28487 18 0) := (up3_ne (by have := cl_int (y := y28550) (by omega); omega)).trans (show A28487 18 0 = (A28487 18 0) from rfl)
            have hS28560 : (up3 A28487 18 (y28550.toNatClampNeg) (A 17 y28558.toNatClampNeg)) 18 164 = (A28487 18 164) := (up3_ne (by have := cl_int (y := y28550) (by omega); omega)).trans (show A28487 18 164 = (A28487 18 164) from rfl)
            obtain ⟨y28561, ey28561⟩ : ∃ y : Int32, y = x28484 + Int32.ofInt 1 := ⟨_, rfl⟩
            replace hF := FE.lt hF ey28561
            have hy28561 : y28561.toInt = x28484.toInt + 1 := i32_add ey28561 rfl (by decide) (by omega) (by omega)
            refine g_iinc (v := y28561) (lv' := [(2, .int y28561), (0, .ref (r 0)), (1, .int z1)]) hk 0 dX12_drop_63 rfl ey28561.symm (by decide) rfl ?_
            refine g_goto (tgt := 22) hk dX12_drop_66 (by decide) ?_
            exact g_lv (List.forall_mem_cons.mpr ⟨List.mem_of_getElem? (i := 0) rfl, (List.forall_mem_cons.mpr ⟨List.mem_of_getElem? (i := 1) rfl, (List.forall_mem_cons.mpr ⟨List.mem_of_getElem? (i := 2) rfl, (fun _ h => absurd h List.not_mem_nil)⟩)⟩)⟩) (ih28545 y28561 I28487 (up3 A28487 18 (y28550.toNatClampNeg) (A 17 y28558.toNatClampNeg)) L28487 (show Md [] I28480 I28487 from Md.tr hI28487 (show Md [] I28487 I28487 from Md.rf) rfl) (show Md [18] A28480 (up3 A28487 18 (y28550.toNatClampNeg) (A 17 y28558.toNatClampNeg)) from Md.tr hA28487 (show Md [18] A28487 (up3 A28487 18 (y28550.toNatClampNeg) (A 17 y28558.toNatClampNeg)) from (Md.up3 Md.rf rfl)) rfl) ⟨(IvM_f1 (I := I28487) (A := A28487) hV28487), (IvM_f2 (I := I28487) (A := A28487) hV28487), (IvM_f3 (I := I28487) (A := A28487) hV28487), (IvM_f4 (I := I28487) (A := A28487) hV28487), (IvM_f6 (I := I28487) (A := A28487) hV28487), (IvM_f8 (I := I28487) (A := A28487) hV28487), (IvM_f15 (I := I28487) (A := A28487) hV28487), (IvM_f16 (I := I28487) (A := A28487) hV28487), (IvM_f17 (I := I28487) (A := A28487) hV28487), (IvM_f18 (I := I28487) (A := A28487) hV28487), (IvM_f22 (I := I28487) (A := A28487) hV28487), (IvM_f23 (I := I28487) (A := A28487) hV28487), (IvM_f24 (I := I28487) (A := A28487) hV28487), (IvM_a11 (I := I28487) (A := A28487) hV28487), (IvM_a26 (I := I28487) (A := A28487) hV28487), (IvM_s8_0 (I := I28487) (A := A28487) hV28487), (IvM_s8_1 (I := I28487) (A := A28487) hV28487), (IvM_s10_0 (I := I28487) (A := A28487) hV28487), (IvM_s10_1 (I := I28487) (A := A28487) hV28487), (IvM_s17_0 (I := I28487) (A := A28487) hV28487), (IvM_s17_164 (I := I28487) (A := A28487) hV28487), (IvM_lv (I := I28487) (A := A28487) hV28487), (IvM_sd (I := I28487) (A := A28487) hV28487), (IvM_nq (I := I28487) (A := A28487) hV28487), (IvM_hr (I := I28487) (A := A28487) hV28487), (IvM_hh (I := I28487) (A := A28487) hV28487), trivial⟩ (show L28487 = L28480 from hL28487) (by omega) (by omega) (by first | (rw [show ((up3 A28487 18 (y28550.toNatClampNeg) (A 17 y28558.toNatClampNeg)) 18 0) = (A28487 18 0) from hS28559] <;> omega) | omega) (by first | (rw [show ((up3 A28487 18 (y28550.toNatClampNeg) (A 17 y28558.toNatClampNeg)) 18 164) = (A28487 18 164) from hS28560] <;> omega) | omega) (by omega) (by omega) hF)
    have k28562 : (0 : Int32).toInt = 0 := rfl
    have b28564 := Int32.le_toInt (0 : Int32)
    have b28565 := Int32.toInt_lt (0 : Int32)
    have n28563a : 161 - (0 : Int32).toInt < (FU : Int) := by have := FU_eq; omega
    have n28563b : 0 < FU := by have := FU_eq; omega
    exact lp28541 FU 0 I28480 A28480 L28480 Md.rf Md.rf hV28480 rfl (by omega) (by omega) (by omega) (by omega) n28563a n28563b hF
