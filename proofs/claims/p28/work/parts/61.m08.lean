noncomputable def bM12_fillsSearch_31 (z1 : Int32) : (Int32 → Int32 → (Nat → Int32) → (Nat → Nat → Int32) → (Nat → Nat → Int64) → (Int32 × (Nat → Int32) × (Nat → Nat → Int32) × (Nat → Nat → Int64))) → Int32 → Int32 → (Nat → Int32) → (Nat → Nat → Int32) → (Nat → Nat → Int64) → (Int32 × (Nat → Int32) × (Nat → Nat → Int32) × (Nat → Nat → Int64)) := fun kk32402 x32203 x32204 I32207 A32207 L32207 => if 160 ≤ x32203.toInt then (0, I32207, A32207, L32207) else if fM12_isOf I32207 A32207 L32207 z1 x32203 = 0 then f_lt (x32203 + Int32.ofInt 1) fun y32419 => kk32402 y32419 x32204 I32207 A32207 L32207 else f_bdM (fM12_passes I32207 A32207 L32207 z1 x32203 x32204) fun y32422 I32425 A32425 L32425 => f_lt ((A32207 25 0) + (1 : Int32)) fun y32427 => if y32422.toInt ≠ 0 then f_lt ((up3 A32425 25 0 y32427) 25 (y32422.toNatClampNeg)) fun y32429 => f_lt (y32429 + (1 : Int32)) fun y32431 => f_lt ((up3 (up3 A32425 25 0 y32427) 25 (y32422.toNatClampNeg) y32431) 25 6) fun y32432 => f_lt (y32432 + (I32425 19)) fun y32435 => if y32422.toInt ≠ 4 then f_lt (x32203 + Int32.ofInt 1) fun y32437 => kk32402 y32437 x32204 I32425 (up3 (up3 (up3 A32425 25 0 y32427) 25 (y32422.toNatClampNeg) y32431) 25 6 y32435) L32425 else f_lt ((up3 (up3 (up3 A32425 25 0 y32427) 25 (y32422.toNatClampNeg) y32431) 25 6 y32435) 25 8) fun y32439 => f_lt ((I32425 20) + (1 : Int32)) fun y32441 => f_lt (y32439 + y32441) fun y32444 => f_lt (x32203 + Int32.ofInt 1) fun y32445 => kk32402 y32445 x32204 I32425 (up3 (up3 (up3 (up3 A32425 25 0 y32427) 25 (y32422.toNatClampNeg) y32431) 25 6 y32435) 25 8 y32444) L32425 else f_lt ((up3 A32425 25 0 y32427) 25 7) fun y32447 => f_lt (y32447 + (1 : Int32)) fun y32449 => f_lt ((up3 (up3 A32425 25 0 y32427) 25 7 y32449) 25 6) fun y32450 => f_lt (y32450 + (I32425 19)) fun y32453 => f_lt (x32203 + Int32.ofInt 1) fun y32454 => kk32402 y32454 (I32425 21) I32425 (up3 (up3 (up3 A32425 25 0 y32427) 25 7 y32449) 25 6 y32453) L32425
noncomputable def bM12_fillsSearch_6 (z1 : Int32) : (Int32 → (Nat → Int32) → (Nat → Nat → Int32) → (Nat → Nat → Int64) → (Int32 × (Nat → Int32) × (Nat → Nat → Int32) × (Nat → Nat → Int64))) → Int32 → (Nat → Int32) → (Nat → Nat → Int32) → (Nat → Nat → Int64) → (Int32 × (Nat → Int32) × (Nat → Nat → Int32) × (Nat → Nat → Int64)) := fun kk32200 x31665 I31668 A31668 L31668 => if 9 ≤ x31665.toInt then itr_iiIAL dfM (bM12_fillsSearch_31 z1) FU 0 2000000000 I31668 A31668 L31668 else f_lt (x31665 + Int32.ofInt 1) fun y32462 => kk32200 y32462 I31668 (up3 A31668 25 (x31665.toNatClampNeg) 0) L31668
noncomputable def fM12_fillsSearch (I : Nat → Int32) (A : Nat → Nat → Int32) (L : Nat → Nat → Int64) (z1 : Int32) : Int32 × (Nat → Int32) × (Nat → Nat → Int32) × (Nat → Nat → Int64) := f_bdM (fM12_copies I A L) fun _ I31660 A31660 L31660 => itr_iIAL dfM (bM12_fillsSearch_6 z1) FU 0 I31660 A31660 L31660
def wo_j189_X12_fillsSearch : List Cond := [Cond.methodLink RX12 323 yX12_copies, Cond.instanceMethod yX12_copies, Cond.selects RX12 yX12_copies yX12_copies, Cond.initialized RX12, Cond.fieldLink RX12 94 "WarpDeskModel" "searchBy" "[I", Cond.constant RX12 282 (2000000000), Cond.methodLink RX12 342 yX12_isOf, Cond.instanceMethod yX12_isOf, Cond.selects RX12 yX12_isOf yX12_isOf, Cond.methodLink RX12 348 yX12_passes, Cond.instanceMethod yX12_passes, Cond.selects RX12 yX12_passes yX12_passes, Cond.fieldLink RX12 292 "WarpDeskModel" "laid" "I", Cond.fieldLink RX12 295 "WarpDeskModel" "brokeAt" "I", Cond.fieldLink RX12 311 "WarpDeskModel" "looksAt" "I"]
def wz_j189_X12_fillsSearch : List Cond := .code yX12_fillsSearch cX12_fillsSearch 5 none :: (wo_j189_X12_fillsSearch ++ (wsX120 ++ (wz_j151_X12_copies ++ (wz_j168_X12_isOf ++ (wz_j184_X12_passes ++ ([] : List Cond))))))
theorem zg_j189_X12_fillsSearch : ∀ w ∈ wz_j189_X12_fillsSearch, goodWord w = true := zg_cons rfl (zg_app (by decide +kernel) (zg_app zgU_wsX120 (zg_app zg_j151_X12_copies (zg_app zg_j168_X12_isOf (zg_app zg_j184_X12_passes zg_nil)))))
theorem zi_j189_X12_fillsSearch : ∀ w ∈ wz_j189_X12_fillsSearch, w ∈ lw_tbl := zi_cons zw_1863 (zi_app (zi_cons zw_1679 (zi_cons zw_1681 (zi_cons zw_70 (zi_cons zw_115 (zi_cons zw_1427 (zi_cons zw_1775 (zi_cons zw_1755 (zi_cons zw_1757 (zi_cons zw_78 (zi_cons zw_1820 (zi_cons zw_1822 (zi_cons zw_91 (zi_cons zw_1419 (zi_cons zw_1420 (zi_cons zw_1421 zi_nil))))))))))))))) (zi_app inX12 (zi_app zi_j151_X12_copies (zi_app zi_j168_X12_isOf (zi_app zi_j184_X12_passes zi_nil)))))
set_option maxHeartbeats 4000000 in
set_option maxRecDepth 100000 in
theorem j189_X12_fillsSearch (l : Launch) (D : va_G) (zt : Nat × Nat × Nat × (Nat → Nat) × (Nat → Nat)) (r : Nat → Nat) (g : Nat → ClassId) (I : Nat → Int32) (A : Nat → Nat → Int32) (L : Nat → Nat → Int64) (z1 : Int32) (hIv : IvM I A) (hp0 : 0 ≤ z1.toInt) (hp1 : z1.toInt ≤ 4) : GM l D zt (tyM g) yX12_fillsSearch wz_j189_X12_fillsSearch ({ frames := 6, cells := 0, slots := 0, locals := 135 } : Room) [.ref (r 0), .int z1] (wM r g I A L) (fun v _ w' => ∃ (I' : Nat → Int32) (A' : Nat → Nat → Int32) (L' : Nat → Nat → Int64), Md [18, 19, 20, 21] I I' ∧ Md [18, 19, 20, 21, 25] A A' ∧ IvM I' A' ∧ (L' = L) ∧ FE (fM12_fillsSearch I A L z1) (0, I', A', L') ∧ v = none ∧ w' = wM r g I' A' L') 0 0 := by
  refine GM.of (cc := cX12_fillsSearch) (maxL := 5) (ret := none) (own := RX12) (lv := [(0, .ref (r 0)), (1, .int z1)]) (by decide) rfl rfl (Nat.le_of_ble_eq_true rfl) rfl (fun κ sz hk hR hN => ?_)
  have hin12 : ∀ w ∈ u_ws RX12 TX12 55, w ∈ wz_j189_X12_fillsSearch := fun w h => (List.mem_cons_of_mem _ (List.mem_append_right _ (List.mem_append_left _ h)))
  have hF : FE (fM12_fillsSearch I A L z1) (fM12_fillsSearch I A L z1) := FE.rf
  refine g_aload_n hk dX12_fillsSearch_0 rfl ?_
  refine g_callV (n := 0) hk (j151_X12_copies l D zt r g I A L  hIv) (SP.same _) (fun _ h => h) (gi_V (List.mem_cons_of_mem _ (List.mem_append_left _ (List.mem_of_getElem? (i := 0) rfl))) (List.mem_cons_of_mem _ (List.mem_append_left _ (List.mem_of_getElem? (i := 1) rfl))) (List.mem_cons_of_mem _ (List.mem_append_left _ (List.mem_of_getElem? (i := 2) rfl))) (List.mem_cons_of_mem _ (List.mem_append_left _ (List.mem_of_getElem? (i := 3) rfl))) (gi_sub (fun w h => (List.mem_cons_of_mem _ (List.mem_append_right _ (List.mem_append_right _ (List.mem_append_left _ h))))) zg_j151_X12_copies)) rfl rfl rfl (by decide +kernel) ⟨Nat.le_of_ble_eq_true rfl, Nat.le_of_ble_eq_true rfl⟩ 0 rfl rfl rfl rfl (Nat.le_of_ble_eq_true rfl) ⟨Nat.le_of_ble_eq_true rfl, Nat.le_of_ble_eq_true rfl⟩ dX12_fillsSearch_1 (fun v ty' w' hp hk' => ?_)
  obtain ⟨I31660, A31660, L31660, hI31660, hA31660, hV31660, r31661, r31662, hL31660, hC, rfl, rfl⟩ := hp
  replace hF := FE.bdM hF hC
  have f31663 := IvM_s17_0 hIv
  have f31664 := IvM_s17_164 hIv
  show GW κ 5 0 0 (wM r g I31660 A31660 L31660) 4 [(0, .ref (r 0)), (1, .int z1)] []
  refine g_iconst (v := 0) hk dX12_fillsSearch_4 (by decide) ?_
  refine g_istore_n (lv' := [(2, .int 0), (0, .ref (r 0)), (1, .int z1)]) hk dX12_fillsSearch_5 (by decide) rfl ?_
  have lp32197 : ∀ (n32198 : Nat) (x31665 : Int32) (I31668 : Nat → Int32) (A31668 : Nat → Nat → Int32) (L31668 : Nat → Nat → Int64), (Md [] I31660 I31668) → (Md [25] A31660 A31668) → (IvM I31668 A31668) → (L31668 = L31660) → (0 ≤ x31665.toInt) → (x31665.toInt ≤ 9) → (10 - x31665.toInt < (n32198 : Int)) → (0 < n32198) → (FE (fM12_fillsSearch I A L z1) (itr_iIAL dfM (bM12_fillsSearch_6 z1) n32198 x31665 I31668 A31668 L31668)) → GW κ 5 0 0 (wM r g I31668 A31668 L31668) 6 [(2, .int x31665), (0, .ref (r 0)), (1, .int z1)] [] := by
    intro n32198
    induction n32198 with
    | zero =>
      intro x31665 I31668 A31668 L31668 hI31668 hA31668 hV31668 hL31668 h32195 h32196 m32199 m32199z hF
      exact absurd m32199z (Nat.lt_irrefl 0)
    | succ n32198 ih32201 =>
      intro x31665 I31668 A31668 L31668 hI31668 hA31668 hV31668 hL31668 h32195 h32196 m32199 m32199z hF
      replace hF := FE.itr_iIAL hF
      refine g_iload_n hk dX12_fillsSearch_6 rfl ?_
      refine g_bipush (v := 9) hk dX12_fillsSearch_7 (by decide) ?_
      refine g_icmp_ge (tgt := 25) (a := x31665.toInt) (b := 9) hk dX12_fillsSearch_9 (by decide) rfl rfl (fun c32202 => ?_) (fun c32202 => ?_)
      · skip
        replace hF := FE.pos hF c32202
        refine g_ldcw (v := 2000000000) hk (List.mem_cons_of_mem _ (List.mem_append_left _ (List.mem_of_getElem? (i := 5) rfl))) dX12_fillsSearch_25 ?_
        refine g_istore_n (lv' := [(2, .int 2000000000), (0, .ref (r 0)), (1, .int z1)]) hk dX12_fillsSearch_28 (by decide) rfl ?_
        refine g_iconst (v := 0) hk dX12_fillsSearch_29 (by decide) ?_
        refine g_istore_n (lv' := [(3, .int 0), (2, .int 2000000000), (0, .ref (r 0)), (1, .int z1)]) hk dX12_fillsSearch_30 (by decide) rfl ?_
        have lp32399 : ∀ (n32400 : Nat) (x32203 : Int32) (x32204 : Int32) (I32207 : Nat → Int32) (A32207 : Nat → Nat → Int32) (L32207 : Nat → Nat → Int64), (Md [18, 19, 20, 21] I31668 I32207) → (Md [19, 20, 21, 25] A31668 A32207) → (IvM I32207 A32207) → (L32207 = L31668) → (0 ≤ x32203.toInt) → (x32203.toInt ≤ 160) → (161 - x32203.toInt < (n32400 : Int)) → (0 < n32400) → (FE (fM12_fillsSearch I A L z1) (itr_iiIAL dfM (bM12_fillsSearch_31 z1) n32400 x32203 x32204 I32207 A32207 L32207)) → GW κ 5 0 0 (wM r g I32207 A32207 L32207) 31 [(3, .int x32203), (2, .int x32204), (0, .ref (r 0)), (1, .int z1)] [] := by
          intro n32400
          induction n32400 with
          | zero =>
            intro x32203 x32204 I32207 A32207 L32207 hI32207 hA32207 hV32207 hL32207 h32397 h32398 m32401 m32401z hF
            exact absurd m32401z (Nat.lt_irrefl 0)
          | succ n32400 ih32403 =>
            intro x32203 x32204 I32207 A32207 L32207 hI32207 hA32207 hV32207 hL32207 h32397 h32398 m32401 m32401z hF
            replace hF := FE.itr_iiIAL hF
            refine g_iload_n hk dX12_fillsSearch_31 rfl ?_
            refine g_sipush (v := 160) hk dX12_fillsSearch_32 (by decide) ?_
            refine g_icmp_ge (tgt := 142) (a := x32203.toInt) (b := 160) hk dX12_fillsSearch_35 (by decide) rfl rfl (fun c32404 => ?_) (fun c32404 => ?_)
            · skip
              replace hF := FE.pos hF c32404
              exact g_vret hk hR ⟨I32207, A32207, L32207, (show Md [18, 19, 20, 21] I I32207 from (Md.tr (Md.tr (Md.tr Md.rf hI31660 rfl) hI31668 rfl) hI32207 rfl)), (show Md [18, 19, 20, 21, 25] A A32207 from (Md.tr (Md.tr (Md.tr Md.rf hA31660 rfl) hA31668 rfl) hA32207 rfl)), hV32207, (show L32207 = L from (hL32207.trans (hL31668.trans hL31660))), hF, rfl, rfl⟩ dX12_fillsSearch_142
            · skip
              replace hF := FE.neg hF c32404
              refine g_aload_n hk dX12_fillsSearch_38 rfl ?_
              refine g_iload_n hk dX12_fillsSearch_39 rfl ?_
              refine g_iload_n hk dX12_fillsSearch_40 rfl ?_
              refine g_callV (n := 2) hk (j168_X12_isOf l D zt r g I32207 A32207 L32207 z1 x32203 hV32207) (SP.same _) (fun _ h => h) (gi_V (List.mem_cons_of_mem _ (List.mem_append_left _ (List.mem_of_getElem? (i := 6) rfl))) (List.mem_cons_of_mem _ (List.mem_append_left _ (List.mem_of_getElem? (i := 7) rfl))) (List.mem_cons_of_mem _ (List.mem_append_left _ (List.mem_of_getElem? (i := 8) rfl))) (List.mem_cons_of_mem _ (List.mem_append_left _ (List.mem_of_getElem? (i := 3) rfl))) (gi_sub (fun w h => (List.mem_cons_of_mem _ (List.mem_append_right _ (List.mem_append_right _ (List.mem_append_right _ (List.mem_append_left _ h)))))) zg_j168_X12_isOf)) rfl rfl rfl (by decide +kernel) ⟨Nat.le_of_ble_eq_true rfl, Nat.le_of_ble_eq_true rfl⟩ 0 rfl rfl rfl rfl (Nat.le_of_ble_eq_true rfl) ⟨Nat.le_of_ble_eq_true rfl, Nat.le_of_ble_eq_true rfl⟩ dX12_fillsSearch_41 (fun v ty' w' hp hk' => ?_)
              rcases hp with ⟨hC, rfl, rfl⟩ | ⟨c32406, c32407, c32408, c32409, c32410, c32411, c32412, c32413, c32414, c32415, c32416, c32417, hC, rfl, rfl⟩
              · skip
                replace hF := FE.pos hF hC
                show GW κ 5 0 0 (wM r g I32207 A32207 L32207) 44 [(3, .int x32203), (2, .int x32204), (0, .ref (r 0)), (1, .int z1)] [.int 0]
                refine g_if_ne (tgt := 50) (a := 0) hk dX12_fillsSearch_44 (by decide) rfl (fun z9 => absurd z9 (show ¬ ((0 : Int) ≠ (0 : Int)) from by decide)) (fun _ => ?_)
                refine g_goto (tgt := 136) hk dX12_fillsSearch_47 (by decide) ?_
                obtain ⟨y32419, ey32419⟩ : ∃ y : Int32, y = x32203 + Int32.ofInt 1 := ⟨_, rfl⟩
                replace hF := FE.lt hF ey32419
                have hy32419 : y32419.toInt = x32203.toInt + 1 := i32_add ey32419 rfl (by decide) (by omega) (by omega)
                refine g_iinc (v := y32419) (lv' := [(3, .int y32419), (2, .int x32204), (0, .ref (r 0)), (1, .int z1)]) hk 0 dX12_fillsSearch_136 rfl ey32419.symm (by decide) rfl ?_
                refine g_goto (tgt := 31) hk dX12_fillsSearch_139 (by decide) ?_
                have b32420l := Int32.le_toInt x32204
                have b32420h := Int32.toInt_lt x32204
                exact g_lv (List.forall_mem_cons.mpr ⟨List.mem_of_getElem? (i := 0) rfl, (List.forall_mem_cons.mpr ⟨List.mem_of_getElem? (i := 1) rfl, (List.forall_mem_cons.mpr ⟨List.mem_of_getElem? (i := 2) rfl, (List.forall_mem_cons.mpr ⟨List.mem_of_getElem? (i := 3) rfl, (fun _ h => absurd h List.not_mem_nil)⟩)⟩)⟩)⟩) (ih32403 y32419 x32204 I32207 A32207 L32207 (show Md [18, 19, 20, 21] I31668 I32207 from Md.tr hI32207 (show Md [18, 19, 20, 21] I32207 I32207 from Md.rf) rfl) (show Md [19, 20, 21, 25] A31668 A32207 from Md.tr hA32207 (show Md [19, 20, 21, 25] A32207 A32207 from Md.rf) rfl) hV32207 (show L32207 = L31668 from hL32207) (by omega) (by omega) (by omega) (by omega) hF)
              · skip
                replace hF := FE.neg hF (fe_ne hC (by decide))
                have f32421 : 0 ≤ (A 11 (5 * (I 15) + z1).toNatClampNeg).toInt ∧ (A 11 (5 * (I 15) + z1).toNatClampNeg).toInt ≤ 16 := IvM_a11 hIv _
                rw [show (A32207 11 (5 * (I32207 15) + z1).toNatClampNeg) = (A 11 (5 * (I 15) + z1).toNatClampNeg) from (by rw [show I32207 15 = (I 15) from ((hI32207 15 rfl).trans ((hI31668 15 rfl).trans (hI31660 15 rfl)))]; exact ((congrFun (hA32207 11 rfl) _).trans ((congrFun (hA31668 11 rfl) _).trans (congrFun (hA31660 11 rfl) _))))] at c32416
                rw [show (A32207 11 (5 * (I32207 15) + z1).toNatClampNeg) = (A 11 (5 * (I 15) + z1).toNatClampNeg) from (by rw [show I32207 15 = (I 15) from ((hI32207 15 rfl).trans ((hI31668 15 rfl).trans (hI31660 15 rfl)))]; exact ((congrFun (hA32207 11 rfl) _).trans ((congrFun (hA31668 11 rfl) _).trans (congrFun (hA31660 11 rfl) _))))] at c32417
                show GW κ 5 0 0 (wM r g I32207 A32207 L32207) 44 [(3, .int x32203), (2, .int x32204), (0, .ref (r 0)), (1, .int z1)] [.int 1]
                refine g_if_ne (tgt := 50) (a := 1) hk dX12_fillsSearch_44 (by decide) rfl (fun _ => ?_) (fun z9 => absurd (show (1 : Int) ≠ (0 : Int) from by decide) z9)
                refine g_aload_n hk dX12_fillsSearch_50 rfl ?_
                refine g_iload_n hk dX12_fillsSearch_51 rfl ?_
                refine g_iload_n hk dX12_fillsSearch_52 rfl ?_
                refine g_iload_n hk dX12_fillsSearch_53 rfl ?_
                refine g_callV (n := 3) hk (j184_X12_passes l D zt r g I32207 A32207 L32207 z1 x32203 x32204 hV32207 (by omega) (by omega) (by omega) (by omega) (by first | (rw [show (A32207 11 (5 * (I32207 15) + z1).toNatClampNeg) = (A 11 (5 * (I 15) + z1).toNatClampNeg) from (by rw [show I32207 15 = (I 15) from ((hI32207 15 rfl).trans ((hI31668 15 rfl).trans (hI31660 15 rfl)))]; exact ((congrFun (hA32207 11 rfl) _).trans ((congrFun (hA31668 11 rfl) _).trans (congrFun (hA31660 11 rfl) _))))] <;> omega) | omega) (by first | (rw [show (A32207 11 (5 * (I32207 15) + z1).toNatClampNeg) = (A 11 (5 * (I 15) + z1).toNatClampNeg) from (by rw [show I32207 15 = (I 15) from ((hI32207 15 rfl).trans ((hI31668 15 rfl).trans (hI31660 15 rfl)))]; exact ((congrFun (hA32207 11 rfl) _).trans ((congrFun (hA31668 11 rfl) _).trans (congrFun (hA31660 11 rfl) _))))] <;> omega) | omega)) (SP.same _) (fun _ h => h) (gi_V (List.mem_cons_of_mem _ (List.mem_append_left _ (List.mem_of_getElem? (i := 9) rfl))) (List.mem_cons_of_mem _ (List.mem_append_left _ (List.mem_of_getElem? (i := 10) rfl))) (List.mem_cons_of_mem _ (List.mem_append_left _ (List.mem_of_getElem? (i := 11) rfl))) (List.mem_cons_of_mem _ (List.mem_append_left _ (List.mem_of_getElem? (i := 3) rfl))) (gi_sub (fun w h => (List.mem_cons_of_mem _ (List.mem_append_right _ (List.mem_append_right _ (List.mem_append_right _ (List.mem_append_right _ (List.mem_append_left _ h))))))) zg_j184_X12_passes)) rfl rfl rfl (by decide +kernel) ⟨Nat.le_of_ble_eq_true rfl, Nat.le_of_ble_eq_true rfl⟩ 0 rfl rfl rfl rfl (Nat.le_of_ble_eq_true rfl) ⟨Nat.le_of_ble_eq_true rfl, Nat.le_of_ble_eq_true rfl⟩ dX12_fillsSearch_54 (fun v ty' w' hp hk' => ?_)
                obtain ⟨I32425, A32425, L32425, hI32425, hA32425, hV32425, y32422, hL32425, c32423, c32424, hC, rfl, rfl⟩ := hp
                replace hF := FE.bdM hF hC
                show GW κ 5 0 0 (wM r g I32425 A32425 L32425) 57 [(3, .int x32203), (2, .int x32204), (0, .ref (r 0)), (1, .int z1)] [.int y32422]
                refine g_istore (lv' := [(4, .int y32422), (3, .int x32203), (2, .int x32204), (0, .ref (r 0)), (1, .int z1)]) hk dX12_fillsSearch_57 (by decide) rfl ?_
                refine g_aload_n hk dX12_fillsSearch_59 rfl ?_
                refine gM_r0_49 hk hin12 (List.mem_cons_of_mem _ (List.mem_append_left _ (List.mem_of_getElem? (i := 4) rfl))) dX12_fillsSearch_60 ?_
                refine g_iconst (v := 0) hk dX12_fillsSearch_63 (by decide) ?_
                refine g_dup2 hk dX12_fillsSearch_64 rfl rfl ?_
                refine lM_25 (v := (A32207 25 0)) hk (vp_in_iff.mpr ⟨by decide, by decide⟩) (congrFun (hA32425 25 rfl) _) dX12_fillsSearch_65 ?_
                refine g_iconst (v := 1) hk dX12_fillsSearch_66 (by decide) ?_
                have b32426l := Int32.le_toInt (A32207 25 0)
                have b32426h := Int32.toInt_lt (A32207 25 0)
                refine g_iadd hk dX12_fillsSearch_67 ?_
                refine g_topi (fun y32427 ey32427 => ?_)
                replace hF := FE.lt hF ey32427
                refine sM_25 (j := 0) hk (vp_in_iff.mpr ⟨by decide, by decide⟩) (by decide) dX12_fillsSearch_68 ?_
                refine g_aload_n hk dX12_fillsSearch_69 rfl ?_
                refine gM_r0_49 hk hin12 (List.mem_cons_of_mem _ (List.mem_append_left _ (List.mem_of_getElem? (i := 4) rfl))) dX12_fillsSearch_70 ?_
                refine g_iload hk dX12_fillsSearch_73 rfl ?_
                refine g_if_ne (tgt := 83) (a := y32422.toInt) hk dX12_fillsSearch_75 (by decide) rfl (fun c32428 => ?_) (fun c32428 => ?_)
                · skip
                  replace hF := FE.pos hF c32428
                  refine g_iload hk dX12_fillsSearch_83 rfl ?_
                  refine g_dup2 hk dX12_fillsSearch_85 rfl rfl ?_
                  refine lM_25 hk (vp_in_iff.mpr ⟨by omega, by omega⟩) rfl dX12_fillsSearch_86 ?_
                  refine g_topi (fun y32429 ey32429 => ?_)
                  replace hF := FE.lt hF ey32429
                  refine g_iconst (v := 1) hk dX12_fillsSearch_87 (by decide) ?_
                  have b32430l := Int32.le_toInt y32429
                  have b32430h := Int32.toInt_lt y32429
                  refine g_iadd hk dX12_fillsSearch_88 ?_
                  refine g_topi (fun y32431 ey32431 => ?_)
                  replace hF := FE.lt hF ey32431
                  refine sM_25 (j := y32422.toNatClampNeg) hk (vp_in_iff.mpr ⟨by omega, by omega⟩) rfl dX12_fillsSearch_89 ?_
                  refine g_aload_n hk dX12_fillsSearch_90 rfl ?_
                  refine gM_r0_49 hk hin12 (List.mem_cons_of_mem _ (List.mem_append_left _ (List.mem_of_getElem? (i := 4) rfl))) dX12_fillsSearch_91 ?_
                  refine g_bipush (v := 6) hk dX12_fillsSearch_94 (by decide) ?_
                  refine g_dup2 hk dX12_fillsSearch_96 rfl rfl ?_
                  refine lM_25 hk (vp_in_iff.mpr ⟨by decide, by decide⟩) rfl dX12_fillsSearch_97 ?_
                  refine g_topi (fun y32432 ey32432 => ?_)
                  replace hF := FE.lt hF ey32432
                  refine g_aload_n hk dX12_fillsSearch_98 rfl ?_
                  refine gM_i19 (v := (I32425 19)) hk hin12 (List.mem_cons_of_mem _ (List.mem_append_left _ (List.mem_of_getElem? (i := 12) rfl))) dX12_fillsSearch_99 rfl ?_
                  have b32433l := Int32.le_toInt y32432
                  have b32433h := Int32.toInt_lt y32432
                  have b32434l := Int32.le_toInt (I32425 19)
                  have b32434h := Int32.toInt_lt (I32425 19)
                  refine g_iadd hk dX12_fillsSearch_102 ?_
                  refine g_topi (fun y32435 ey32435 => ?_)
                  replace hF := FE.lt hF ey32435
                  refine sM_25 (j := 6) hk (vp_in_iff.mpr ⟨by decide, by decide⟩) (by decide) dX12_fillsSearch_103 ?_
                  refine g_iload hk dX12_fillsSearch_104 rfl ?_
                  refine g_iconst (v := 4) hk dX12_fillsSearch_106 (by decide) ?_
                  refine g_icmp_ne (tgt := 126) (a := y32422.toInt) (b := 4) hk dX12_fillsSearch_107 (by decide) rfl rfl (fun c32436 => ?_) (fun c32436 => ?_)
                  · skip
                    replace hF := FE.pos hF c32436
                    refine g_iload hk dX12_fillsSearch_126 rfl ?_
                    refine g_if_ne (tgt := 136) (a := y32422.toInt) hk dX12_fillsSearch_128 (by decide) rfl (fun _ => ?_) (fun z9 => absurd (show y32422.toInt ≠ 0 from by omega) z9)
                    obtain ⟨y32437, ey32437⟩ : ∃ y : Int32, y = x32203 + Int32.ofInt 1 := ⟨_, rfl⟩
                    replace hF := FE.lt hF ey32437
                    have hy32437 : y32437.toInt = x32203.toInt + 1 := i32_add ey32437 rfl (by decide) (by omega) (by omega)
                    refine g_iinc (v := y32437) (lv' := [(3, .int y32437), (4, .int y32422), (2, .int x32204), (0, .ref (r 0)), (1, .int z1)]) hk 1 dX12_fillsSearch_136 rfl ey32437.symm (by decide) rfl ?_
                    refine g_goto (tgt := 31) hk dX12_fillsSearch_139 (by decide) ?_
                    have b32438l := Int32.le_toInt x32204
                    have b32438h := Int32.toInt_lt x32204
                    exact g_lv (List.forall_mem_cons.mpr ⟨List.mem_of_getElem? (i := 0) rfl, (List.forall_mem_cons.mpr ⟨List.mem_of_getElem? (i := 2) rfl, (List.forall_mem_cons.mpr ⟨List.mem_of_getElem? (i := 3) rfl, (List.forall_mem_cons.mpr ⟨List.mem_of_getElem? (i := 4) rfl, (fun _ h => absurd h List.not_mem_nil)⟩)⟩)⟩)⟩) (ih32403 y32437 x32204 I32425 (up3 (up3 (up3 A32425 25 0 y32427) 25 (y32422.toNatClampNeg) y32431) 25 6 y32435) L32425 (show Md [18, 19, 20, 21] I31668 I32425 from Md.tr hI32207 (show Md [18, 19, 20, 21] I32207 I32425 from (Md.tr Md.rf hI32425 rfl)) rfl) (show Md [19, 20, 21, 25] A31668 (up3 (up3 (up3 A32425 25 0 y32427) 25 (y32422.toNatClampNeg) y32431) 25 6 y32435) from Md.tr hA32207 (show Md [19, 20, 21, 25] A32207 (up3 (up3 (up3 A32425 25 0 y32427) 25 (y32422.toNatClampNeg) y32431) 25 6 y32435) from (Md.up3 (Md.up3 (Md.up3 (Md.tr Md.rf hA32425 rfl) rfl) rfl) rfl)) rfl) ⟨(IvM_f1 (I := I32425) (A := A32425) hV32425), (IvM_f2 (I := I32425) (A := A32425) hV32425), (IvM_f3 (I := I32425) (A := A32425) hV32425), (IvM_f4 (I := I32425) (A := A32425) hV32425), (IvM_f6 (I := I32425) (A := A32425) hV32425), (IvM_f8 (I := I32425) (A := A32425) hV32425), (IvM_f15 (I := I32425) (A := A32425) hV32425), (IvM_f16 (I := I32425) (A := A32425) hV32425), (IvM_f17 (I := I32425) (A := A32425) hV32425), (IvM_f18 (I := I32425) (A := A32425) hV32425), (IvM_f22 (I := I32425) (A := A32425) hV32425), (IvM_f23 (I := I32425) (A := A32425) hV32425), (IvM_f24 (I := I32425) (A := A32425) hV32425), (IvM_a11 (I := I32425) (A := A32425) hV32425), (IvM_a26 (I := I32425) (A := A32425) hV32425), (IvM_s8_0 (I := I32425) (A := A32425) hV32425), (IvM_s8_1 (I := I32425) (A := A32425) hV32425), (IvM_s10_0 (I := I32425) (A := A32425) hV32425), (IvM_s10_1 (I := I32425) (A := A32425) hV32425), (IvM_s17_0 (I := I32425) (A := A32425) hV32425), (IvM_s17_164 (I := I32425) (A := A32425) hV32425), (IvM_lv (I := I32425) (A := A32425) hV32425), (IvM_sd (I := I32425) (A := A32425) hV32425), (IvM_nq (I := I32425) (A := A32425) hV32425), (IvM_hr (I := I32425) (A := A32425) hV32425), (IvM_hh (I := I32425) (A := A32425) hV32425), trivial⟩ (show L32425 = L31668 from (hL32425.trans hL32207)) (by omega) (by omega) (by omega) (by omega) hF)
                  · skip
                    replace hF := FE.neg hF c32436
                    refine g_aload_n hk dX12_fillsSearch_110 rfl ?_
                    refine gM_r0_49 hk hin12 (List.mem_cons_of_mem _ (List.mem_append_left _ (List.mem_of_getElem? (i := 4) rfl))) dX12_fillsSearch_111 ?_
                    refine g_bipush (v := 8) hk dX12_fillsSearch_114 (by decide) ?_
                    refine g_dup2 hk dX12_fillsSearch_116 rfl rfl ?_
                    refine lM_25 hk (vp_in_iff.mpr ⟨by decide, by decide⟩) rfl dX12_fillsSearch_117 ?_
                    refine g_topi (fun y32439 ey32439 => ?_)
                    replace hF := FE.lt hF ey32439
                    refine g_aload_n hk dX12_fillsSearch_118 rfl ?_
                    refine gM_i20 (v := (I32425 20)) hk hin12 (List.mem_cons_of_mem _ (List.mem_append_left _ (List.mem_of_getElem? (i := 13) rfl))) dX12_fillsSearch_119 rfl ?_
                    refine g_iconst (v := 1) hk dX12_fillsSearch_122 (by decide) ?_
                    have b32440l := Int32.le_toInt (I32425 20)
                    have b32440h := Int32.toInt_lt (I32425 20)
                    refine g_iadd hk dX12_fillsSearch_123 ?_
                    refine g_topi (fun y32441 ey32441 => ?_)
                    replace hF := FE.lt hF ey32441
                    have b32442l := Int32.le_toInt y32439
                    have b32442h := Int32.toInt_lt y32439
                    have b32443l := Int32.le_toInt y32441
                    have b32443h := Int32.toInt_lt y32441
                    refine g_iadd hk dX12_fillsSearch_124 ?_
                    refine g_topi (fun y32444 ey32444 => ?_)
                    replace hF := FE.lt hF ey32444
                    refine sM_25 (j := 8) hk (vp_in_iff.mpr ⟨by decide, by decide⟩) (by decide) dX12_fillsSearch_125 ?_
                    refine g_iload hk dX12_fillsSearch_126 rfl ?_
                    refine g_if_ne (tgt := 136) (a := y32422.toInt) hk dX12_fillsSearch_128 (by decide) rfl (fun _ => ?_) (fun z9 => absurd (show y32422.toInt ≠ 0 from by omega) z9)
                    obtain ⟨y32445, ey32445⟩ : ∃ y : Int32, y = x32203 + Int32.ofInt 1 := ⟨_, rfl⟩
                    replace hF := FE.lt hF ey32445
                    have hy32445 : y32445.toInt = x32203.toInt + 1 := i32_add ey32445 rfl (by decide) (by omega) (by omega)
                    refine g_iinc (v := y32445) (lv' := [(3, .int y32445), (4, .int y32422), (2, .int x32204), (0, .ref (r 0)), (1, .int z1)]) hk 1 dX12_fillsSearch_136 rfl ey32445.symm (by decide) rfl ?_
                    refine g_goto (tgt := 31) hk dX12_fillsSearch_139 (by decide) ?_
                    have b32446l := Int32.le_toInt x32204
                    have b32446h := Int32.toInt_lt x32204
                    exact g_lv (List.forall_mem_cons.mpr ⟨List.mem_of_getElem? (i := 0) rfl, (List.forall_mem_cons.mpr ⟨List.mem_of_getElem? (i := 2) rfl, (List.forall_mem_cons.mpr ⟨List.mem_of_getElem? (i := 3) rfl, (List.forall_mem_cons.mpr ⟨List.mem_of_getElem? (i := 4) rfl, (fun _ h => absurd h List.not_mem_nil)⟩)⟩)⟩)⟩) (ih32403 y32445 x32204 I32425 (up3 (up3 (up3 (up3 A32425 25 0 y32427) 25 (y32422.toNatClampNeg) y32431) 25 6 y32435) 25 8 y32444) L32425 (show Md [18, 19, 20, 21] I31668 I32425 from Md.tr hI32207 (show Md [18, 19, 20, 21] I32207 I32425 from (Md.tr Md.rf hI32425 rfl)) rfl) (show Md [19, 20, 21, 25] A31668 (up3 (up3 (up3 (up3 A32425 25 0 y32427) 25 (y32422.toNatClampNeg) y32431) 25 6 y32435) 25 8 y32444) from Md.tr hA32207 (show Md [19, 20, 21, 25] A32207 (up3 (up3 (up3 (up3 A32425 25 0 y32427) 25 (y32422.toNatClampNeg) y32431) 25 6 y32435) 25 8 y32444) from (Md.up3 (Md.up3 (Md.up3 (Md.up3 (Md.tr Md.rf hA32425 rfl) rfl) rfl) rfl) rfl)) rfl) ⟨(IvM_f1 (I := I32425) (A := A32425) hV32425), (IvM_f2 (I := I32425) (A := A32425) hV32425), (IvM_f3 (I := I32425) (A := A32425) hV32425), (IvM_f4 (I := I32425) (A := A32425) hV32425), (IvM_f6 (I := I32425) (A := A32425) hV32425), (IvM_f8 (I := I32425) (A := A32425) hV32425), (IvM_f15 (I := I32425) (A := A32425) hV32425), (IvM_f16 (I := I32425) (A := A32425) hV32425), (IvM_f17 (I := I32425) (A := A32425) hV32425), (IvM_f18 (I := I32425) (A := A32425) hV32425), (IvM_f22 (I := I32425) (A := A32425) hV32425), (IvM_f23 (I := I32425) (A := A32425) hV32425), (IvM_f24 (I := I32425) (A := A32425) hV32425), (IvM_a11 (I := I32425) (A := A32425) hV32425), (IvM_a26 (I := I32425) (A := A32425) hV32425), (IvM_s8_0 (I := I32425) (A := A32425) hV32425), (IvM_s8_1 (I := I32425) (A := A32425) hV32425), (IvM_s10_0 (I := I32425) (A := A32425) hV32425), (IvM_s10_1 (I := I32425) (A := A32425) hV32425), (IvM_s17_0 (I := I32425) (A := A32425) hV32425), (IvM_s17_164 (I := I32425) (A := A32425) hV32425), (IvM_lv (I := I32425) (A := A32425) hV32425), (IvM_sd (I := I32425) (A := A32425) hV32425), (IvM_nq (I := I32425) (A := A32425) hV32425), (IvM_hr (I := I32425) (A := A32425) hV32425), (IvM_hh (I := I32425) (A := A32425) hV32425), trivial⟩ (show L32425 = L31668 from (hL32425.trans hL32207)) (by omega) (by omega) (by omega) (by omega) hF)
                · skip
                  replace hF := FE.neg hF c32428
                  refine g_bipush (v := 7) hk dX12_fillsSearch_78 (by decide) ?_
                  refine g_goto (tgt := 85) hk dX12_fillsSearch_80 (by decide) ?_
                  refine g_dup2 hk dX12_fillsSearch_85 rfl rfl ?_
                  refine lM_25 hk (vp_in_iff.mpr ⟨by decide, by decide⟩) rfl dX12_fillsSearch_86 ?_
                  refine g_topi (fun y32447 ey32447 => ?_)
                  replace hF := FE.lt hF ey32447
                  refine g_iconst (v := 1) hk dX12_fillsSearch_87 (by decide) ?_
                  have b32448l := Int32.le_toInt y32447
                  have b32448h := Int32.toInt_lt y32447
                  refine g_iadd hk dX12_fillsSearch_88 ?_
                  refine g_topi (fun y32449 ey32449 => ?_)
                  replace hF := FE.lt hF ey32449
                  refine sM_25 (j := 7) hk (vp_in_iff.mpr ⟨by decide, by decide⟩) (by decide) dX12_fillsSearch_89 ?_
                  refine g_aload_n hk dX12_fillsSearch_90 rfl ?_
                  refine gM_r0_49 hk hin12 (List.mem_cons_of_mem _ (List.mem_append_left _ (List.mem_of_getElem? (i := 4) rfl))) dX12_fillsSearch_91 ?_
                  refine g_bipush (v := 6) hk dX12_fillsSearch_94 (by decide) ?_
                  refine g_dup2 hk dX12_fillsSearch_96 rfl rfl ?_
                  refine lM_25 hk (vp_in_iff.mpr ⟨by decide, by decide⟩) rfl dX12_fillsSearch_97 ?_
                  refine g_topi (fun y32450 ey32450 => ?_)
                  replace hF := FE.lt hF ey32450
                  refine g_aload_n hk dX12_fillsSearch_98 rfl ?_
                  refine gM_i19 (v := (I32425 19)) hk hin12 (List.mem_cons_of_mem _ (List.mem_append_left _ (List.mem_of_getElem? (i := 12) rfl))) dX12_fillsSearch_99 rfl ?_
                  have b32451l := Int32.le_toInt y32450
                  have b32451h := Int32.toInt_lt y32450
                  have b32452l := Int32.le_toInt (I32425 19)
                  have b32452h := Int32.toInt_lt (I32425 19)
                  refine g_iadd hk dX12_fillsSearch_102 ?_
                  refine g_topi (fun y32453 ey32453 => ?_)
                  replace hF := FE.lt hF ey32453
                  refine sM_25 (j := 6) hk (vp_in_iff.mpr ⟨by decide, by decide⟩) (by decide) dX12_fillsSearch_103 ?_
                  refine g_iload hk dX12_fillsSearch_104 rfl ?_
                  refine g_iconst (v := 4) hk dX12_fillsSearch_106 (by decide) ?_
                  refine g_icmp_ne (tgt := 126) (a := y32422.toInt) (b := 4) hk dX12_fillsSearch_107 (by decide) rfl rfl (fun _ => ?_) (fun z9 => absurd (show y32422.toInt ≠ 4 from by omega) z9)
                  refine g_iload hk dX12_fillsSearch_126 rfl ?_
                  refine g_if_ne (tgt := 136) (a := y32422.toInt) hk dX12_fillsSearch_128 (by decide) rfl (fun z9 => absurd z9 (show ¬ (y32422.toInt ≠ 0) from by omega)) (fun _ => ?_)
                  refine g_aload_n hk dX12_fillsSearch_131 rfl ?_
                  refine gM_i21 (v := (I32425 21)) hk hin12 (List.mem_cons_of_mem _ (List.mem_append_left _ (List.mem_of_getElem? (i := 14) rfl))) dX12_fillsSearch_132 rfl ?_
                  refine g_istore_n (lv' := [(2, .int (I32425 21)), (4, .int y32422), (3, .int x32203), (0, .ref (r 0)), (1, .int z1)]) hk dX12_fillsSearch_135 (by decide) rfl ?_
                  obtain ⟨y32454, ey32454⟩ : ∃ y : Int32, y = x32203 + Int32.ofInt 1 := ⟨_, rfl⟩
                  replace hF := FE.lt hF ey32454
                  have hy32454 : y32454.toInt = x32203.toInt + 1 := i32_add ey32454 rfl (by decide) (by omega) (by omega)
                  refine g_iinc (v := y32454) (lv' := [(3, .int y32454), (2, .int (I32425 21)), (4, .int y32422), (0, .ref (r 0)), (1, .int z1)]) hk 2 dX12_fillsSearch_136 rfl ey32454.symm (by decide) rfl ?_
                  refine g_goto (tgt := 31) hk dX12_fillsSearch_139 (by decide) ?_
                  have b32455l := Int32.le_toInt (I32425 21)
                  have b32455h := Int32.toInt_lt (I32425 21)
                  exact g_lv (List.forall_mem_cons.mpr ⟨List.mem_of_getElem? (i := 0) rfl, (List.forall_mem_cons.mpr ⟨List.mem_of_getElem? (i := 1) rfl, (List.forall_mem_cons.mpr ⟨List.mem_of_getElem? (i := 3) rfl, (List.forall_mem_cons.mpr ⟨List.mem_of_getElem? (i := 4) rfl, (fun _ h => absurd h List.not_mem_nil)⟩)⟩)⟩)⟩) (ih32403 y32454 (I32425 21) I32425 (up3 (up3 (up3 A32425 25 0 y32427) 25 7 y32449) 25 6 y32453) L32425 (show Md [18, 19, 20, 21] I31668 I32425 from Md.tr hI32207 (show Md [18, 19, 20, 21] I32207 I32425 from (Md.tr Md.rf hI32425 rfl)) rfl) (show Md [19, 20, 21, 25] A31668 (up3 (up3 (up3 A32425 25 0 y32427) 25 7 y32449) 25 6 y32453) from Md.tr hA32207 (show Md [19, 20, 21, 25] A32207 (up3 (up3 (up3 A32425 25 0 y32427) 25 7 y32449) 25 6 y32453) from (Md.up3 (Md.up3 (Md.up3 (Md.tr Md.rf hA32425 rfl) rfl) rfl) rfl)) rfl) ⟨(IvM_f1 (I := I32425) (A := A32425) hV32425), (IvM_f2 (I := I32425) (A := A32425) hV32425), (IvM_f3 (I := I32425) (A := A32425) hV32425), (IvM_f4 (I := I32425) (A := A32425) hV32425), (IvM_f6 (I := I32425) (A := A32425) hV32425), (IvM_f8 (I := I32425) (A := A32425) hV32425), (IvM_f15 (I := I32425) (A := A32425) hV32425), (IvM_f16 (I := I32425) (A := A32425) hV32425), (IvM_f17 (I := I32425) (A := A32425) hV32425), (IvM_f18 (I := I32425) (A := A32425) hV32425), (IvM_f22 (I := I32425) (A := A32425) hV32425), (IvM_f23 (I := I32425) (A := A32425) hV32425), (IvM_f24 (I := I32425) (A := A32425) hV32425), (IvM_a11 (I := I32425) (A := A32425) hV32425), (IvM_a26 (I := I32425) (A := A32425) hV32425), (IvM_s8_0 (I := I32425) (A := A32425) hV32425), (IvM_s8_1 (I := I32425) (A := A32425) hV32425), (IvM_s10_0 (I := I32425) (A := A32425) hV32425), (IvM_s10_1 (I := I32425) (A := A32425) hV32425), (IvM_s17_0 (I := I32425) (A := A32425) hV32425), (IvM_s17_164 (I := I32425) (A := A32425) hV32425), (IvM_lv (I := I32425) (A := A32425) hV32425), (IvM_sd (I := I32425) (A := A32425) hV32425), (IvM_nq (I := I32425) (A := A32425) hV32425), (IvM_hr (I := I32425) (A := A32425) hV32425), (IvM_hh (I := I32425) (A := A32425) hV32425), trivial⟩ (show L32425 = L31668 from (hL32425.trans hL32207)) (by omega) (by omega) (by omega) (by omega) hF)
        have k32456 : (0 : Int32).toInt = 0 := rfl
        have k32457 : (2000000000 : Int32).toInt = 2000000000 := rfl
        have b32459 := Int32.le_toInt (0 : Int32)
        have b32460 := Int32.toInt_lt (0 : Int32)
        have n32458a : 161 - (0 : Int32).toInt < (FU : Int) := by have := FU_eq; omega
        have n32458b : 0 < FU := by have := FU_eq; omega
        exact lp32399 FU 0 2000000000 I31668 A31668 L31668 Md.rf Md.rf hV31668 rfl (by omega) (by omega) n32458a n32458b hF
      · skip
        replace hF := FE.neg hF c32202
        refine g_aload_n hk dX12_fillsSearch_12 rfl ?_
        refine gM_r0_49 hk hin12 (List.mem_cons_of_mem _ (List.mem_append_left _ (List.mem_of_getElem? (i := 4) rfl))) dX12_fillsSearch_13 ?_
        refine g_iload_n hk dX12_fillsSearch_16 rfl ?_
        refine g_iconst (v := 0) hk dX12_fillsSearch_17 (by decide) ?_
        have k32461 : (0 : Int32).toInt = 0 := rfl
        refine sM_25 (j := x31665.toNatClampNeg) hk (vp_in_iff.mpr ⟨by omega, by omega⟩) rfl dX12_fillsSearch_18 ?_
        obtain ⟨y32462, ey32462⟩ : ∃ y : Int32, y = x31665 + Int32.ofInt 1 := ⟨_, rfl⟩
        replace hF := FE.lt hF ey32462
        have hy32462 : y32462.toInt = x31665.toInt + 1 := i32_add ey32462 rfl (by decide) (by omega) (by omega)
        refine g_iinc (v := y32462) (lv' := [(2, .int y32462), (0, .ref (r 0)), (1, .int z1)]) hk 0 dX12_fillsSearch_19 rfl ey32462.symm (by decide) rfl ?_
        refine g_goto (tgt := 6) hk dX12_fillsSearch_22 (by decide) ?_
        exact g_lv (List.forall_mem_cons.mpr ⟨List.mem_of_getElem? (i := 0) rfl, (List.forall_mem_cons.mpr ⟨List.mem_of_getElem? (i := 1) rfl, (List.forall_mem_cons.mpr ⟨List.mem_of_getElem? (i := 2) rfl, (fun _ h => absurd h List.not_mem_nil)⟩)⟩)⟩) (ih32201 y32462 I31668 (up3 A31668 25 (x31665.toNatClampNeg) 0) L31668 (show Md [] I31660 I31668 from Md.tr hI31668 (show Md [] I31668 I31668 from Md.rf) rfl) (show Md [25] A31660 (up3 A31668 25 (x31665.toNatClampNeg) 0) from Md.tr hA31668 (show Md [25] A31668 (up3 A31668 25 (x31665.toNatClampNeg) 0) from (Md.up3 Md.rf rfl)) rfl) ⟨(IvM_f1 (I := I31668) (A := A31668) hV31668), (IvM_f2 (I := I31668) (A := A31668) hV31668), (IvM_f3 (I := I31668) (A := A31668) hV31668), (IvM_f4 (I := I31668) (A := A31668) hV31668), (IvM_f6 (I := I31668) (A := A31668) hV31668), (IvM_f8 (I := I31668) (A := A31668) hV31668), (IvM_f15 (I := I31668) (A := A31668) hV31668), (IvM_f16 (I := I31668) (A := A31668) hV31668), (IvM_f17 (I := I31668) (A := A31668) hV31668), (IvM_f18 (I := I31668) (A := A31668) hV31668), (IvM_f22 (I := I31668) (A := A31668) hV31668), (IvM_f23 (I := I31668) (A := A31668) hV31668), (IvM_f24 (I := I31668) (A := A31668) hV31668), (IvM_a11 (I := I31668) (A := A31668) hV31668), (IvM_a26 (I := I31668) (A := A31668) hV31668), (IvM_s8_0 (I := I31668) (A := A31668) hV31668), (IvM_s8_1 (I := I31668) (A := A31668) hV31668), (IvM_s10_0 (I := I31668) (A := A31668) hV31668), (IvM_s10_1 (I := I31668) (A := A31668) hV31668), (IvM_s17_0 (I := I31668) (A := A31668) hV31668), (IvM_s17_164 (I := I31668) (A := A31668) hV31668), (IvM_lv (I := I31668) (A := A31668) hV31668), (IvM_sd (I := I31668) (A := A31668) hV31668), (IvM_nq (I := I31668) (A := A31668) hV31668), (IvM_hr (I := I31668) (A := A31668) hV31668), (IvM_hh (I := I31668) (A := A31668) hV31668), trivial⟩ (show L31668 = L31660 from hL31668) (by omega) (by omega) (by omega) (by omega) hF)
  have k32463 : (0 : Int32).toInt = 0 := rfl
  have b32465 := Int32.le_toInt (0 : Int32)
  have b32466 := Int32.toInt_lt (0 : Int32)
  have n32464a : 10 - (0 : Int32).toInt < (FU : Int) := by have := FU_eq; omega
  have n32464b : 0 < FU := by have := FU_eq; omega
  exact lp32197 FU 0 I31660 A31660 L31660 Md.rf Md.rf hV31660 rfl (by omega) (by omega) n32464a n32464b hF
noncomputable def fM12_search (I : Nat → Int32) (A : Nat → Nat → Int32) (L : Nat → Nat → Int64) (z1 : Int32) (z2 : Int32) : Int32 × (Nat → Int32) × (Nat → Nat → Int32) × (Nat → Nat → Int64) := if fM12_isQuery I A L z1 = 0 then ((-1), I, A, L) else if fM12_in I A L z2 0 8 = 0 then ((-1), I, A, L) else f_bdM (fM12_fillsSearch I A L z1) fun _ I32468 A32468 L32468 => ((A32468 25 z2.toNatClampNeg), I32468, A32468, L32468)
def wo_j188_X12_search : List Cond := [Cond.methodLink RX12 251 yX12_isQuery, Cond.instanceMethod yX12_isQuery, Cond.selects RX12 yX12_isQuery yX12_isQuery, Cond.initialized RX12, Cond.methodLink RX12 244 yX12_in, Cond.static yX12_in, Cond.methodLink RX12 363 yX12_fillsSearch, Cond.instanceMethod yX12_fillsSearch, Cond.selects RX12 yX12_fillsSearch yX12_fillsSearch, Cond.fieldLink RX12 94 "WarpDeskModel" "searchBy" "[I"]
def wz_j188_X12_search : List Cond := .code yX12_search cX12_search 3 (some .int) :: (wo_j188_X12_search ++ (wsX120 ++ (wz_j147_X12_isQuery ++ (wz_j145_X12_in ++ (wz_j189_X12_fillsSearch ++ ([] : List Cond))))))
theorem zg_j188_X12_search : ∀ w ∈ wz_j188_X12_search, goodWord w = true := zg_cons rfl (zg_app (by decide +kernel) (zg_app zgU_wsX120 (zg_app zg_j147_X12_isQuery (zg_app zg_j145_X12_in (zg_app zg_j189_X12_fillsSearch zg_nil)))))
theorem zi_j188_X12_search : ∀ w ∈ wz_j188_X12_search, w ∈ lw_tbl := zi_cons zw_1859 (zi_app (zi_cons zw_1663 (zi_cons zw_1665 (zi_cons zw_67 (zi_cons zw_115 (zi_cons zw_1656 (zi_cons zw_1657 (zi_cons zw_1860 (zi_cons zw_1862 (zi_cons zw_95 (zi_cons zw_1427 zi_nil)))))))))) (zi_app inX12 (zi_app zi_j147_X12_isQuery (zi_app zi_j145_X12_in (zi_app zi_j189_X12_fillsSearch zi_nil)))))
set_option maxHeartbeats 4000000 in
set_option maxRecDepth 100000 in
theorem j188_X12_search (l : Launch) (D : va_G) (zt : Nat × Nat × Nat × (Nat → Nat) × (Nat → Nat)) (r : Nat → Nat) (g : Nat → ClassId) (I : Nat → Int32) (A : Nat → Nat → Int32) (L : Nat → Nat → Int64) (z1 : Int32) (z2 : Int32) (hIv : IvM I A) : GM l D zt (tyM g) yX12_search wz_j188_X12_search ({ frames := 7, cells := 0, slots := 0, locals := 159 } : Room) [.ref (r 0), .int z1, .int z2] (wM r g I A L) (fun v _ w' => ∃ (I' : Nat → Int32) (A' : Nat → Nat → Int32) (L' : Nat → Nat → Int64), Md [18, 19, 20, 21] I I' ∧ Md [18, 19, 20, 21, 25] A A' ∧ IvM I' A' ∧ ∃ y0 : Int32, (L' = L) ∧ FE (fM12_search I A L z1 z2) (y0, I', A', L') ∧ v = some (.int y0) ∧ w' = wM r g I' A' L') 0 0 := by
  refine GM.of (cc := cX12_search) (maxL := 3) (ret := (some .int)) (own := RX12) (lv := [(0, .ref (r 0)), (1, .int z1), (2, .int z2)]) (by decide) rfl rfl (Nat.le_of_ble_eq_true rfl) rfl (fun κ sz hk hR hN => ?_)
  have hin12 : ∀ w ∈ u_ws RX12 TX12 55, w ∈ wz_j188_X12_search := fun w h => (List.mem_cons_of_mem _ (List.mem_append_right _ (List.mem_append_left _ h)))
  have hF : FE (fM12_search I A L z1 z2) (fM12_search I A L z1 z2) := FE.rf
  refine g_aload_n hk dX12_search_0 rfl ?_
  refine g_iload_n hk dX12_search_1 rfl ?_
  refine g_callV (n := 1) hk (j147_X12_isQuery l D zt r g I A L z1 hIv) (SP.same _) (fun _ h => h) (gi_V (List.mem_cons_of_mem _ (List.mem_append_left _ (List.mem_of_getElem? (i := 0) rfl))) (List.mem_cons_of_mem _ (List.mem_append_left _ (List.mem_of_getElem? (i := 1) rfl))) (List.mem_cons_of_mem _ (List.mem_append_left _ (List.mem_of_getElem? (i := 2) rfl))) (List.mem_cons_of_mem _ (List.mem_append_left _ (List.mem_of_getElem? (i := 3) rfl))) (gi_sub (fun w h => (List.mem_cons_of_mem _ (List.mem_append_right _ (List.mem_append_right _ (List.mem_append_left _ h))))) zg_j147_X12_isQuery)) rfl rfl rfl (by decide +kernel) ⟨Nat.le_of_ble_eq_true rfl, Nat.le_of_ble_eq_true rfl⟩ 0 rfl rfl rfl rfl (Nat.le_of_ble_eq_true rfl) ⟨Nat.le_of_ble_eq_true rfl, Nat.le_of_ble_eq_true rfl⟩ dX12_search_2 (fun v ty' w' hp hk' => ?_)
  rcases hp with ⟨hC, rfl, rfl⟩ | ⟨c31645, c31646, c31647, c31648, hC, rfl, rfl⟩
  · skip
    replace hF := FE.pos hF hC
    show GW κ 3 0 0 (wM r g I A L) 5 [(0, .ref (r 0)), (1, .int z1), (2, .int z2)] [.int 0]
    refine g_if_eq (tgt := 18) (a := 0) hk dX12_search_5 (by decide) rfl (fun _ => ?_) (fun z9 => absurd (show (0 : Int) = (0 : Int) from by decide) z9)
    refine g_iconst (v := (-1)) hk dX12_search_18 (by decide) ?_
    exact g_iret hk hR rfl ⟨I, A, L, (show Md [18, 19, 20, 21] I I from Md.rf), (show Md [18, 19, 20, 21, 25] A A from Md.rf), hIv, (-1), (show L = L from rfl), hF, rfl, rfl⟩ dX12_search_19
  · skip
    replace hF := FE.neg hF (fe_ne hC (by decide))
    have f31650 : 0 ≤ (A 11 (5 * (I 15) + z1).toNatClampNeg).toInt ∧ (A 11 (5 * (I 15) + z1).toNatClampNeg).toInt ≤ 16 := IvM_a11 hIv _
    show GW κ 3 0 0 (wM r g I A L) 5 [(0, .ref (r 0)), (1, .int z1), (2, .int z2)] [.int 1]
    refine g_if_eq (tgt := 18) (a := 1) hk dX12_search_5 (by decide) rfl (fun z9 => absurd z9 (show ¬ ((1 : Int) = (0 : Int)) from by decide)) (fun _ => ?_)
    refine g_iload_n hk dX12_search_8 rfl ?_
    refine g_iconst (v := 0) hk dX12_search_9 (by decide) ?_
    refine g_bipush (v := 8) hk dX12_search_10 (by decide) ?_
    have k31651 : (0 : Int32).toInt = 0 := rfl
    have k31652 : (8 : Int32).toInt = 8 := rfl
    refine g_callS (n := 3) hk (j145_X12_in l D zt r g I A L z2 0 8 hIv) (SP.same _) (fun _ h => h) (gi_S (List.mem_cons_of_mem _ (List.mem_append_left _ (List.mem_of_getElem? (i := 4) rfl))) (List.mem_cons_of_mem _ (List.mem_append_left _ (List.mem_of_getElem? (i := 5) rfl))) (List.mem_cons_of_mem _ (List.mem_append_left _ (List.mem_of_getElem? (i := 3) rfl))) (gi_sub (fun w h => (List.mem_cons_of_mem _ (List.mem_append_right _ (List.mem_append_right _ (List.mem_append_right _ (List.mem_append_left _ h)))))) zg_j145_X12_in)) rfl rfl rfl (by decide +kernel) ⟨Nat.le_of_ble_eq_true rfl, Nat.le_of_ble_eq_true rfl⟩ rfl rfl (Nat.le_of_ble_eq_true rfl) ⟨Nat.le_of_ble_eq_true rfl, Nat.le_of_ble_eq_true rfl⟩ dX12_search_12 (fun v ty' w' hp hk' => ?_)
    rcases hp with ⟨c31653, hC, rfl, rfl⟩ | ⟨c31655, c31656, hC, rfl, rfl⟩
    · skip
      replace hF := FE.pos hF hC
      have b31658l := Int32.le_toInt z2
      have b31658h := Int32.toInt_lt z2
      show GW κ 3 0 0 (wM r g I A L) 15 [(0, .ref (r 0)), (1, .int z1), (2, .int z2)] [.int 0]
      refine g_if_ne (tgt := 20) (a := 0) hk dX12_search_15 (by decide) rfl (fun z9 => absurd z9 (show ¬ ((0 : Int) ≠ (0 : Int)) from by decide)) (fun _ => ?_)
      refine g_iconst (v := (-1)) hk dX12_search_18 (by decide) ?_
      exact g_iret hk hR rfl ⟨I, A, L, (show Md [18, 19, 20, 21] I I from Md.rf), (show Md [18, 19, 20, 21, 25] A A from Md.rf), hIv, (-1), (show L = L from rfl), hF, rfl, rfl⟩ dX12_search_19
    · skip
      replace hF := FE.neg hF (fe_ne hC (by decide))
      show GW κ 3 0 0 (wM r g I A L) 15 [(0, .ref (r 0)), (1, .int z1), (2, .int z2)] [.int 1]
      refine g_if_ne (tgt := 20) (a := 1) hk dX12_search_15 (by decide) rfl (fun _ => ?_) (fun z9 => absurd (show (1 : Int) ≠ (0 : Int) from by decide) z9)
      refine g_aload_n hk dX12_search_20 rfl ?_
      refine g_iload_n hk dX12_search_21 rfl ?_
      refine g_callV (n := 1) hk (j189_X12_fillsSearch l D zt r g I A L z1 hIv (by omega) (by omega)) (SP.same _) (fun _ h => h) (gi_V (List.mem_cons_of_mem _ (List.mem_append_left _ (List.mem_of_getElem? (i := 6) rfl))) (List.mem_cons_of_mem _ (List.mem_append_left _ (List.mem_of_getElem? (i := 7) rfl))) (List.mem_cons_of_mem _ (List.mem_append_left _ (List.mem_of_getElem? (i := 8) rfl))) (List.mem_cons_of_mem _ (List.mem_append_left _ (List.mem_of_getElem? (i := 3) rfl))) (gi_sub (fun w h => (List.mem_cons_of_mem _ (List.mem_append_right _ (List.mem_append_right _ (List.mem_append_right _ (List.mem_append_right _ (List.mem_append_left _ h))))))) zg_j189_X12_fillsSearch)) rfl rfl rfl (by decide +kernel) ⟨Nat.le_of_ble_eq_true rfl, Nat.le_of_ble_eq_true rfl⟩ 0 rfl rfl rfl rfl (Nat.le_of_ble_eq_true rfl) ⟨Nat.le_of_ble_eq_true rfl, Nat.le_of_ble_eq_true rfl⟩ dX12_search_22 (fun v ty' w' hp hk' => ?_)
      obtain ⟨I32468, A32468, L32468, hI32468, hA32468, hV32468, hL32468, hC, rfl, rfl⟩ := hp
      replace hF := FE.bdM hF hC
      show GW κ 3 0 0 (wM r g I32468 A32468 L32468) 25 [(0, .ref (r 0)), (1, .int z1), (2, .int z2)] []
      refine g_aload_n hk dX12_search_25 rfl ?_
      refine gM_r0_49 hk hin12 (List.mem_cons_of_mem _ (List.mem_append_left _ (List.mem_of_getElem? (i := 9) rfl))) dX12_search_26 ?_
      refine g_iload_n hk dX12_search_29 rfl ?_
      refine lM_25 (v := (A32468 25 z2.toNatClampNeg)) hk (vp_in_iff.mpr ⟨by omega, by omega⟩) rfl dX12_search_30 ?_
      have b32469l := Int32.le_toInt (A32468 25 z2.toNatClampNeg)
      have b32469h := Int32.toInt_lt (A32468 25 z2.toNatClampNeg)
      exact g_iret hk hR rfl ⟨I32468, A32468, L32468, (show Md [18, 19, 20, 21] I I32468 from (Md.tr Md.rf hI32468 rfl)), (show Md [18, 19, 20, 21, 25] A A32468 from (Md.tr Md.rf hA32468 rfl)), hV32468, (A32468 25 z2.toNatClampNeg), (show L32468 = L from hL32468), hF, rfl, rfl⟩ dX12_search_31
noncomputable def bM12_isApart_2 (I : Nat → Int32) (A : Nat → Nat → Int32) (L : Nat → Nat → Int64) (z1 : Int32) : (Int32 → (Int32)) → Int32 → (Int32) := fun kk32563 x32501 => if (I 24).toInt ≤ x32501.toInt then 1 else f_lt (z1 - (A 26 x32501.toNatClampNeg)) fun y32568 => f_lt ((1 : Int32) - (A 18 164)) fun y32570 => f_lt ((A 18 164) - (1 : Int32)) fun y32571 => if fM12_in I A L y32568 y32570 y32571 = 0 then f_lt (x32501 + Int32.ofInt 1) fun y32577 => kk32563 y32577 else 0
noncomputable def fM12_isApart (I : Nat → Int32) (A : Nat → Nat → Int32) (L : Nat → Nat → Int64) (z1 : Int32) : Int32 := itr_i (0 : Int32) (bM12_isApart_2 I A L z1) FU 0
def wo_j192_X12_isApart : List Cond := [Cond.fieldLink RX12 366 "WarpDeskModel" "matchMany" "I", Cond.fieldLink RX12 97 "WarpDeskModel" "matchAt" "[I", Cond.fieldLink RX12 73 "WarpDeskModel" "row" "[I", Cond.methodLink RX12 244 yX12_in, Cond.static yX12_in, Cond.initialized RX12]
def wz_j192_X12_isApart : List Cond := .code yX12_isApart cX12_isApart 3 (some .boolean) :: (wo_j192_X12_isApart ++ (wsX120 ++ (wz_j145_X12_in ++ ([] : List Cond))))
theorem zg_j192_X12_isApart : ∀ w ∈ wz_j192_X12_isApart, goodWord w = true := zg_cons rfl (zg_app (by decide +kernel) (zg_app zgU_wsX120 (zg_app zg_j145_X12_in zg_nil)))
theorem zi_j192_X12_isApart : ∀ w ∈ wz_j192_X12_isApart, w ∈ lw_tbl := zi_cons zw_1875 (zi_app (zi_cons zw_1428 (zi_cons zw_1429 (zi_cons zw_1414 (zi_cons zw_1656 (zi_cons zw_1657 (zi_cons zw_115 zi_nil)))))) (zi_app inX12 (zi_app zi_j145_X12_in zi_nil)))
set_option maxHeartbeats 4000000 in
set_option maxRecDepth 100000 in
theorem j192_X12_isApart (l : Launch) (D : va_G) (zt : Nat × Nat × Nat × (Nat → Nat) × (Nat → Nat)) (r : Nat → Nat) (g : Nat → ClassId) (I : Nat → Int32) (A : Nat → Nat → Int32) (L : Nat → Nat → Int64) (z1 : Int32) (hIv : IvM I A) (hp0 : 0 ≤ z1.toInt) (hp1 : z1.toInt ≤ 159) (hp2 : 1 ≤ (A 18 164).toInt) : GM l D zt (tyM g) yX12_isApart wz_j192_X12_isApart ({ frames := 1, cells := 0, slots := 0, locals := 22 } : Room) [.ref (r 0), .int z1] (wM r g I A L) (fun v _ w' => (FE (fM12_isApart I A L z1) (0) ∧ v = some (.int 0) ∧ w' = wM r g I A L) ∨ ((∀ j : Nat, (j : Int) < (I 24).toInt → (A 26 j).toInt ≠ z1.toInt) ∧ FE (fM12_isApart I A L z1) (1) ∧ v = some (.int 1) ∧ w' = wM r g I A L)) 0 0 := by
  refine GM.of (cc := cX12_isApart) (maxL := 3) (ret := (some .boolean)) (own := RX12) (lv := [(0, .ref (r 0)), (1, .int z1)]) (by decide) rfl rfl (Nat.le_of_ble_eq_true rfl) rfl (fun κ sz hk hR hN => ?_)
  have hin12 : ∀ w ∈ u_ws RX12 TX12 55, w ∈ wz_j192_X12_isApart := fun w h => (List.mem_cons_of_mem _ (List.mem_append_right _ (List.mem_append_left _ h)))
  have hF : FE (fM12_isApart I A L z1) (fM12_isApart I A L z1) := FE.rf
  refine g_iconst (v := 0) hk dX12_isApart_0 (by decide) ?_
  refine g_istore_n (lv' := [(2, .int 0), (0, .ref (r 0)), (1, .int z1)]) hk dX12_isApart_1 (by decide) rfl ?_
  have lp32560 : ∀ (n32561 : Nat) (x32501 : Int32), (0 ≤ x32501.toInt) → (x32501.toInt ≤ 160) → (∀ j : Nat, (j : Int) < x32501.toInt → (A 26 j).toInt ≠ z1.toInt) → (161 - x32501.toInt < (n32561 : Int)) → (0 < n32561) → (FE (fM12_isApart I A L z1) (itr_i (0 : Int32) (bM12_isApart_2 I A L z1) n32561 x32501)) → GW κ 3 0 0 (wM r g I A L) 2 [(2, .int x32501), (0, .ref (r 0)), (1, .int z1)] [] := by
    intro n32561
    induction n32561 with
    | zero =>
      intro x32501 h32557 h32558 hP32559 m32562 m32562z hF
      exact absurd m32562z (Nat.lt_irrefl 0)
    | succ n32561 ih32564 =>
      intro x32501 h32557 h32558 hP32559 m32562 m32562z hF
      replace hF := FE.itr_i hF
      refine g_iload_n hk dX12_isApart_2 rfl ?_
      refine g_aload_n hk dX12_isApart_3 rfl ?_
      refine gM_i24 (v := (I 24)) hk hin12 (List.mem_cons_of_mem _ (List.mem_append_left _ (List.mem_of_getElem? (i := 0) rfl))) dX12_isApart_4 rfl ?_
      have f32565 := IvM_f24 hIv
      refine g_icmp_ge (tgt := 52) (a := x32501.toInt) (b := (I 24).toInt) hk dX12_isApart_7 (by decide) rfl rfl (fun c32566 => ?_) (fun c32566 => ?_)
      · skip
        replace hF := FE.pos hF c32566
        refine g_iconst (v := 1) hk dX12_isApart_52 (by decide) ?_
        exact g_iret hk hR rfl (Or.inr (⟨(fun j hj => hP32559 j (by omega)), hF, rfl, rfl⟩)) dX12_isApart_53
      · skip
        replace hF := FE.neg hF c32566
        refine g_iload_n hk dX12_isApart_10 rfl ?_
        refine g_aload_n hk dX12_isApart_11 rfl ?_
        refine gM_r0_51 hk hin12 (List.mem_cons_of_mem _ (List.mem_append_left _ (List.mem_of_getElem? (i := 1) rfl))) dX12_isApart_12 ?_
        refine g_iload_n hk dX12_isApart_15 rfl ?_
        refine lM_26 (v := (A 26 x32501.toNatClampNeg)) hk (vp_in_iff.mpr ⟨by omega, by omega⟩) rfl dX12_isApart_16 ?_
        have f32567 := IvM_a26 hIv (x32501.toNatClampNeg)
        refine g_isub hk dX12_isApart_17 ?_
        refine g_topi (fun y32568 ey32568 => ?_)
        replace hF := FE.lt hF ey32568
        have hy32568 : y32568.toInt = z1.toInt - (A 26 x32501.toNatClampNeg).toInt := i32_sub ey32568 rfl rfl (by omega) (by omega)
        refine g_iconst (v := 1) hk dX12_isApart_18 (by decide) ?_
        refine g_aload_n hk dX12_isApart_19 rfl ?_
        refine gM_r0_36 hk hin12 (List.mem_cons_of_mem _ (List.mem_append_left _ (List.mem_of_getElem? (i := 2) rfl))) dX12_isApart_20 ?_
        refine g_sipush (v := 164) hk dX12_isApart_23 (by decide) ?_
        refine lM_18 (v := (A 18 164)) hk (vp_in_iff.mpr ⟨by decide, by decide⟩) rfl dX12_isApart_26 ?_
        have b32569l := Int32.le_toInt (A 18 164)
        have b32569h := Int32.toInt_lt (A 18 164)
        refine g_isub hk dX12_isApart_27 ?_
        refine g_topi (fun y32570 ey32570 => ?_)
        replace hF := FE.lt hF ey32570
        have hy32570 : y32570.toInt = 1 - (A 18 164).toInt := i32_sub ey32570 rfl rfl (by omega) (by omega)
        refine g_aload_n hk dX12_isApart_28 rfl ?_
        refine gM_r0_36 hk hin12 (List.mem_cons_of_mem _ (List.mem_append_left _ (List.mem_of_getElem? (i := 2) rfl))) dX12_isApart_29 ?_
        refine g_sipush (v := 164) hk dX12_isApart_32 (by decide) ?_
        refine lM_18 (v := (A 18 164)) hk (vp_in_iff.mpr ⟨by decide, by decide⟩) rfl dX12_isApart_35 ?_
        refine g_iconst (v := 1) hk dX12_isApart_36 (by decide) ?_
        refine g_isub hk dX12_isApart_37 ?_
        refine g_topi (fun y32571 ey32571 => ?_)
        replace hF := FE.lt hF ey32571
        have hy32571 : y32571.toInt = (A 18 164).toInt - 1 := i32_sub ey32571 rfl rfl (by omega) (by omega)
        refine g_callS (n := 3) hk (j145_X12_in l D zt r g I A L y32568 y32570 y32571 hIv) (SP.same _) (fun _ h => h) (gi_S (List.mem_cons_of_mem _ (List.mem_append_left _ (List.mem_of_getElem? (i := 3) rfl))) (List.mem_cons_of_mem _ (List.mem_append_left _ (List.mem_of_getElem? (i := 4) rfl))) (List.mem_cons_of_mem _ (List.mem_append_left _ (List.mem_of_getElem? (i := 5) rfl))) (gi_sub (fun w h => (List.mem_cons_of_mem _ (List.mem_append_right _ (List.mem_append_right _ (List.mem_append_left _ h))))) zg_j145_X12_in)) rfl rfl rfl (by decide +kernel) ⟨Nat.le_of_ble_eq_true rfl, Nat.le_of_ble_eq_true rfl⟩ rfl rfl (Nat.le_of_ble_eq_true rfl) ⟨Nat.le_of_ble_eq_true rfl, Nat.le_of_ble_eq_true rfl⟩ dX12_isApart_38 (fun v ty' w' hp hk' => ?_)
        rcases hp with ⟨c32572, hC, rfl, rfl⟩ | ⟨c32574, c32575, hC, rfl, rfl⟩
        · skip
          replace hF := FE.pos hF hC
          show GW κ 3 0 0 (wM r g I A L) 41 [(2, .int x32501), (0, .ref (r 0)), (1, .int z1)] [.int 0]
          refine g_if_eq (tgt := 46) (a := 0) hk dX12_isApart_41 (by decide) rfl (fun _ => ?_) (fun z9 => absurd (show (0 : Int) = (0 : Int) from by decide) z9)
          obtain ⟨y32577, ey32577⟩ : ∃ y : Int32, y = x32501 + Int32.ofInt 1 := ⟨_, rfl⟩
          replace hF := FE.lt hF ey32577
          have hy32577 : y32577.toInt = x32501.toInt + 1 := i32_add ey32577 rfl (by decide) (by omega) (by omega)
          refine g_iinc (v := y32577) (lv' := [(2, .int y32577), (0, .ref (r 0)), (1, .int z1)]) hk 0 dX12_isApart_46 rfl ey32577.symm (by decide) rfl ?_
          refine g_goto (tgt := 2) hk dX12_isApart_49 (by decide) ?_
          exact g_lv (List.forall_mem_cons.mpr ⟨List.mem_of_getElem? (i := 0) rfl, (List.forall_mem_cons.mpr ⟨List.mem_of_getElem? (i := 1) rfl, (List.forall_mem_cons.mpr ⟨List.mem_of_getElem? (i := 2) rfl, (fun _ h => absurd h List.not_mem_nil)⟩)⟩)⟩) (ih32564 y32577 (by omega) (by omega) (fun j hj => by by_cases hj2 : (j : Int) < x32501.toInt; exact hP32559 j hj2; have e9 : j = x32501.toNatClampNeg := (by have := cl_int (y := x32501) (by omega); omega); rw [e9]; omega) (by omega) (by omega) hF)
        · skip
          replace hF := FE.neg hF (fe_ne hC (by decide))
          show GW κ 3 0 0 (wM r g I A L) 41 [(2, .int x32501), (0, .ref (r 0)), (1, .int z1)] [.int 1]
          refine g_if_eq (tgt := 46) (a := 1) hk dX12_isApart_41 (by decide) rfl (fun z9 => absurd z9 (show ¬ ((1 : Int) = (0 : Int)) from by decide)) (fun _ => ?_)
          refine g_iconst (v := 0) hk dX12_isApart_44 (by decide) ?_
          exact g_iret hk hR rfl (Or.inl ⟨hF, rfl, rfl⟩) dX12_isApart_45
  have k32578 : (0 : Int32).toInt = 0 := rfl
  have b32580 := Int32.le_toInt (0 : Int32)
  have b32581 := Int32.toInt_lt (0 : Int32)
  have n32579a : 161 - (0 : Int32).toInt < (FU : Int) := by have := FU_eq; omega
  have n32579b : 0 < FU := by have := FU_eq; omega
  exact lp32560 FU 0 (by omega) (by omega) (fun j hj => absurd (show (j : Int) < (0 : Int32).toInt from hj) (by have : (0 : Int32).toInt = 0 := rfl; omega)) n32579a n32579b hF
noncomputable def bM12_fillsMatches_20 (I32493 : Nat → Int32) (kk32807 : Int32 → (Nat → Int32) → (Nat → Nat → Int32) → (Nat → Nat → Int64) → (Int32 × (Nat → Int32) × (Nat → Nat → Int32) × (Nat → Nat → Int64))) (A32493 : Nat → Nat → Int32) (L32493 : Nat → Nat → Int64) (A32488 : Nat → Nat → Int32) : (Int32 → Int32 → (Int32 × (Nat → Int32) × (Nat → Nat → Int32) × (Nat → Nat → Int64))) → Int32 → Int32 → (Int32 × (Nat → Int32) × (Nat → Nat → Int32) × (Nat → Nat → Int64)) := fun kk32898 x32810 x32811 => if 160 ≤ x32810.toInt then if 0 ≤ x32811.toInt then f_lt ((I32493 24) + (1 : Int32)) fun y32904 => kk32807 x32811 (upd I32493 24 y32904) (up3 A32493 26 ((I32493 24).toNatClampNeg) x32811) L32493 else (0, I32493, A32493, L32493) else if (A32488 24 x32810.toNatClampNeg).toInt < 0 then f_lt (x32810 + Int32.ofInt 1) fun y32907 => kk32898 y32907 x32811 else if fM12_isApart I32493 A32493 L32493 x32810 = 0 then f_lt (x32810 + Int32.ofInt 1) fun y32911 => kk32898 y32911 x32811 else if x32811.toInt < 0 then f_lt (x32810 + Int32.ofInt 1) fun y32913 => kk32898 y32913 x32810 else if (A32488 24 x32811.toNatClampNeg).toInt ≤ (A32488 24 x32810.toNatClampNeg).toInt then f_lt (x32810 + Int32.ofInt 1) fun y32916 => kk32898 y32916 x32811 else f_lt (x32810 + Int32.ofInt 1) fun y32917 => kk32898 y32917 x32810
noncomputable def bM12_fillsMatches_12 (A32488 : Nat → Nat → Int32) : (Int32 → (Nat → Int32) → (Nat → Nat → Int32) → (Nat → Nat → Int64) → (Int32 × (Nat → Int32) × (Nat → Nat → Int32) × (Nat → Nat → Int64))) → Int32 → (Nat → Int32) → (Nat → Nat → Int32) → (Nat → Nat → Int64) → (Int32 × (Nat → Int32) × (Nat → Nat → Int32) × (Nat → Nat → Int64)) := fun kk32807 x32490 I32493 A32493 L32493 => itr_ii dfM (bM12_fillsMatches_20 I32493 kk32807 A32493 L32493 A32488) FU 0 (-1)
noncomputable def fM12_fillsMatches (I : Nat → Int32) (A : Nat → Nat → Int32) (L : Nat → Nat → Int64) (z1 : Int32) : Int32 × (Nat → Int32) × (Nat → Nat → Int32) × (Nat → Nat → Int64) := f_bdM (fM12_fillsFar I A L z1) fun _ I32488 A32488 L32488 => itr_iIAL dfM (bM12_fillsMatches_12 A32488) FU 0 (upd I32488 24 0) A32488 L32488
def wo_j191_X12_fillsMatches : List Cond := [Cond.methodLink RX12 357 yX12_fillsFar, Cond.instanceMethod yX12_fillsFar, Cond.selects RX12 yX12_fillsFar yX12_fillsFar, Cond.initialized RX12, Cond.fieldLink RX12 366 "WarpDeskModel" "matchMany" "I", Cond.fieldLink RX12 91 "WarpDeskModel" "farBy" "[I", Cond.methodLink RX12 369 yX12_isApart, Cond.instanceMethod yX12_isApart, Cond.selects RX12 yX12_isApart yX12_isApart, Cond.fieldLink RX12 97 "WarpDeskModel" "matchAt" "[I"]
def wz_j191_X12_fillsMatches : List Cond := .code yX12_fillsMatches cX12_fillsMatches 4 none :: (wo_j191_X12_fillsMatches ++ (wsX120 ++ (wz_j186_X12_fillsFar ++ (wz_j192_X12_isApart ++ ([] : List Cond)))))
theorem zg_j191_X12_fillsMatches : ∀ w ∈ wz_j191_X12_fillsMatches, goodWord w = true := zg_cons rfl (zg_app (by decide +kernel) (zg_app zgU_wsX120 (zg_app zg_j186_X12_fillsFar (zg_app zg_j192_X12_isApart zg_nil))))
theorem zi_j191_X12_fillsMatches : ∀ w ∈ wz_j191_X12_fillsMatches, w ∈ lw_tbl := zi_cons zw_1871 (zi_app (zi_cons zw_1844 (zi_cons zw_1846 (zi_cons zw_93 (zi_cons zw_115 (zi_cons zw_1428 (zi_cons zw_1426 (zi_cons zw_1872 (zi_cons zw_1874 (zi_cons zw_97 (zi_cons zw_1429 zi_nil)))))))))) (zi_app inX12 (zi_app zi_j186_X12_fillsFar (zi_app zi_j192_X12_isApart zi_nil))))
set_option maxHeartbeats 4000000 in
set_option maxRecDepth 100000 in
theorem j191_X12_fillsMatches (l : Launch) (D : va_G) (zt : Nat × Nat × Nat × (Nat → Nat) × (Nat → Nat)) (r : Nat → Nat) (g : Nat → ClassId) (I : Nat → Int32) (A : Nat → Nat → Int32) (L : Nat → Nat → Int64) (z1 : Int32) (hIv : IvM I A) (hp0 : 0 ≤ z1.toInt) (hp1 : z1.toInt ≤ 4) : GM l D zt (tyM g) yX12_fillsMatches wz_j191_X12_fillsMatches ({ frames := 7, cells := 0, slots := 0, locals := 156 } : Room) [.ref (r 0), .int z1] (wM r g I A L) (fun v _ w' => ∃ (I' : Nat → Int32) (A' : Nat → Nat → Int32) (L' : Nat → Nat → Int64), Md [18, 19, 20, 24] I I' ∧ Md [18, 19, 20, 21, 24, 26] A A' ∧ IvM I' A' ∧ (L' = L) ∧ FE (fM12_fillsMatches I A L z1) (0, I', A', L') ∧ v = none ∧ w' = wM r g I' A' L') 0 0 := by
  refine GM.of (cc := cX12_fillsMatches) (maxL := 4) (ret := none) (own := RX12) (lv := [(0, .ref (r 0)), (1, .int z1)]) (by decide) rfl rfl (Nat.le_of_ble_eq_true rfl) rfl (fun κ sz hk hR hN => ?_)
  have hin12 : ∀ w ∈ u_ws RX12 TX12 55, w ∈ wz_j191_X12_fillsMatches := fun w h => (List.mem_cons_of_mem _ (List.mem_append_right _ (List.mem_append_left _ h)))
  have hF : FE (fM12_fillsMatches I A L z1) (fM12_fillsMatches I A L z1) := FE.rf
  refine g_aload_n hk dX12_fillsMatches_0 rfl ?_
  refine g_iload_n hk dX12_fillsMatches_1 rfl ?_
  refine g_callV (n := 1) hk (j186_X12_fillsFar l D zt r g I A L z1 hIv (by omega) (by omega)) (SP.same _) (fun _ h => h) (gi_V (List.mem_cons_of_mem _ (List.mem_append_left _ (List.mem_of_getElem? (i := 0) rfl))) (List.mem_cons_of_mem _ (List.mem_append_left _ (List.mem_of_getElem? (i := 1) rfl))) (List.mem_cons_of_mem _ (List.mem_append_left _ (List.mem_of_getElem? (i := 2) rfl))) (List.mem_cons_of_mem _ (List.mem_append_left _ (List.mem_of_getElem? (i := 3) rfl))) (gi_sub (fun w h => (List.mem_cons_of_mem _ (List.mem_append_right _ (List.mem_append_right _ (List.mem_append_left _ h))))) zg_j186_X12_fillsFar)) rfl rfl rfl (by decide +kernel) ⟨Nat.le_of_ble_eq_true rfl, Nat.le_of_ble_eq_true rfl⟩ 0 rfl rfl rfl rfl (Nat.le_of_ble_eq_true rfl) ⟨Nat.le_of_ble_eq_true rfl, Nat.le_of_ble_eq_true rfl⟩ dX12_fillsMatches_2 (fun v ty' w' hp hk' => ?_)
  obtain ⟨I32488, A32488, L32488, hI32488, hA32488, hV32488, r32489, hL32488, hC, rfl, rfl⟩ := hp
  replace hF := FE.bdM hF hC
  show GW κ 4 0 0 (wM r g I32488 A32488 L32488) 5 [(0, .ref (r 0)), (1, .int z1)] []
  refine g_aload_n hk dX12_fillsMatches_5 rfl ?_
  refine g_iconst (v := 0) hk dX12_fillsMatches_6 (by decide) ?_
  refine pM_i24 hk hin12 (List.mem_cons_of_mem _ (List.mem_append_left _ (List.mem_of_getElem? (i := 4) rfl))) dX12_fillsMatches_7 ?_
  refine g_iconst (v := 0) hk dX12_fillsMatches_10 (by decide) ?_
  refine g_istore_n (lv' := [(2, .int 0), (0, .ref (r 0)), (1, .int z1)]) hk dX12_fillsMatches_11 (by decide) rfl ?_
  have lp32804 : ∀ (n32805 : Nat) (x32490 : Int32) (I32493 : Nat → Int32) (A32493 : Nat → Nat → Int32) (L32493 : Nat → Nat → Int64), (Md [24] (upd I32488 24 0) I32493) → (Md [26] A32488 A32493) → (IvM I32493 A32493) → (L32493 = L32488) → (0 ≤ x32490.toInt) → (x32490.toInt ≤ 159) → (∀ i j : Nat, i < j → (j : Int) < (I32493 24).toInt → (A32493 26 i).toInt ≠ (A32493 26 j).toInt) → (161 - (I32493 24).toInt < (n32805 : Int)) → (0 < n32805) → (FE (fM12_fillsMatches I A L z1) (itr_iIAL dfM (bM12_fillsMatches_12 A32488) n32805 x32490 I32493 A32493 L32493)) → GW κ 4 0 0 (wM r g I32493 A32493 L32493) 12 [(2, .int x32490), (0, .ref (r 0)), (1, .int z1)] [] := by
    intro n32805
    induction n32805 with
    | zero =>
      intro x32490 I32493 A32493 L32493 hI32493 hA32493 hV32493 hL32493 h32801 h32802 hP32803 m32806 m32806z hF
      exact absurd m32806z (Nat.lt_irrefl 0)
    | succ n32805 ih32808 =>
      intro x32490 I32493 A32493 L32493 hI32493 hA32493 hV32493 hL32493 h32801 h32802 hP32803 m32806 m32806z hF
      have f32809 := IvM_f24 hV32493
      replace hF := FE.itr_iIAL hF
      refine g_iload_n hk dX12_fillsMatches_12 rfl ?_
      refine g_if_lt (tgt := 99) (a := x32490.toInt) hk dX12_fillsMatches_13 (by decide) rfl (fun z9 => absurd z9 (show ¬ (x32490.toInt < 0) from by omega)) (fun _ => ?_)
      refine g_iconst (v := (-1)) hk dX12_fillsMatches_16 (by decide) ?_
      refine g_istore_n (lv' := [(2, .int (-1)), (0, .ref (r 0)), (1, .int z1)]) hk dX12_fillsMatches_17 (by decide) rfl ?_
      refine g_iconst (v := 0) hk dX12_fillsMatches_18 (by decide) ?_
      refine g_istore_n (lv' := [(3, .int 0), (2, .int (-1)), (0, .ref (r 0)), (1, .int z1)]) hk dX12_fillsMatches_19 (by decide) rfl ?_
      have lp32895 : ∀ (n32896 : Nat) (x32810 : Int32) (x32811 : Int32), (0 ≤ x32810.toInt) → (x32810.toInt ≤ 160) → ((-1) ≤ x32811.toInt) → (x32811.toInt ≤ 159) → (0 ≤ x32811.toInt → ∀ j : Nat, (j : Int) < (I32493 24).toInt → (A32493 26 j).toInt ≠ x32811.toInt) → (161 - x32810.toInt < (n32896 : Int)) → (0 < n32896) → (FE (fM12_fillsMatches I A L z1) (itr_ii dfM (bM12_fillsMatches_20 I32493 (itr_iIAL dfM (bM12_fillsMatches_12 A32488) n32805) A32493 L32493 A32488) n32896 x32810 x32811)) → GW κ 4 0 0 (wM r g I32493 A32493 L32493) 20 [(3, .int x32810), (2, .int x32811), (0, .ref (r 0)), (1, .int z1)] [] := by
        intro n32896
        induction n32896 with
        | zero =>
          intro x32810 x32811 h32890 h32891 h32892 h32893 hP32894 m32897 m32897z hF
          exact absurd m32897z (Nat.lt_irrefl 0)
        | succ n32896 ih32899 =>
          intro x32810 x32811 h32890 h32891 h32892 h32893 hP32894 m32897 m32897z hF
          replace hF := FE.itr_ii hF
          refine g_iload_n hk dX12_fillsMatches_20 rfl ?_
          refine g_sipush (v := 160) hk dX12_fillsMatches_21 (by decide) ?_
          refine g_icmp_ge (tgt := 71) (a := x32810.toInt) (b := 160) hk dX12_fillsMatches_24 (by decide) rfl rfl (fun c32900 => ?_) (fun c32900 => ?_)
          · skip
            replace hF := FE.pos hF c32900
            refine g_iload_n hk dX12_fillsMatches_71 rfl ?_
            refine g_if_ge (tgt := 76) (a := x32811.toInt) hk dX12_fillsMatches_72 (by decide) rfl (fun c32901 => ?_) (fun c32901 => ?_)
            · skip
              replace hF := FE.pos hF c32901
              refine g_aload_n hk dX12_fillsMatches_76 rfl ?_
              refine gM_r0_51 hk hin12 (List.mem_cons_of_mem _ (List.mem_append_left _ (List.mem_of_getElem? (i := 9) rfl))) dX12_fillsMatches_77 ?_
              refine g_aload_n hk dX12_fillsMatches_80 rfl ?_
              refine gM_i24 (v := (I32493 24)) hk hin12 (List.mem_cons_of_mem _ (List.mem_append_left _ (List.mem_of_getElem? (i := 4) rfl))) dX12_fillsMatches_81 rfl ?_
              refine g_iload_n hk dX12_fillsMatches_84 rfl ?_
              have g32902 : (I32493 24).toInt ≤ 159 := pg_lt (b := x32811) ⟨by omega, by omega⟩ (IvM_a26 (I := I32493) (A := A32493) hV32493) hP32803 (hP32894 (by omega)) (by omega) (by omega)
              refine sM_26 (j := (I32493 24).toNatClampNeg) hk (vp_in_iff.mpr ⟨by omega, by omega⟩) rfl dX12_fillsMatches_85 ?_
              have hA32903 : ∀ j, 0 ≤ ((up3 A32493 26 ((I32493 24).toNatClampNeg) x32811) 26 j).toInt ∧ ((up3 A32493 26 ((I32493 24).toNatClampNeg) x32811) 26 j).toInt ≤ 159 := ai_st ((IvM_a26 hV32493)) ⟨by omega, by omega⟩
              refine g_aload_n hk dX12_fillsMatches_86 rfl ?_
              refine g_dup hk dX12_fillsMatches_87 rfl ?_
              refine gM_i24 (v := (I32493 24)) hk hin12 (List.mem_cons_of_mem _ (List.mem_append_left _ (List.mem_of_getElem? (i := 4) rfl))) dX12_fillsMatches_88 rfl ?_
              refine g_iconst (v := 1) hk dX12_fillsMatches_91 (by decide) ?_
              refine g_iadd hk dX12_fillsMatches_92 ?_
              refine g_topi (fun y32904 ey32904 => ?_)
              replace hF := FE.lt hF ey32904
              have hy32904 : y32904.toInt = (I32493 24).toInt + 1 := i32_add ey32904 rfl rfl (by omega) (by omega)
              refine pM_i24 hk hin12 (List.mem_cons_of_mem _ (List.mem_append_left _ (List.mem_of_getElem? (i := 4) rfl))) dX12_fillsMatches_93 ?_
              refine g_goto (tgt := 12) hk dX12_fillsMatches_96 (by decide) ?_
              exact g_lv (List.forall_mem_cons.mpr ⟨List.mem_of_getElem? (i := 1) rfl, (List.forall_mem_cons.mpr ⟨List.mem_of_getElem? (i := 2) rfl, (List.forall_mem_cons.mpr ⟨List.mem_of_getElem? (i := 3) rfl, (fun _ h => absurd h List.not_mem_nil)⟩)⟩)⟩) (ih32808 x32811 (upd I32493 24 y32904) (up3 A32493 26 ((I32493 24).toNatClampNeg) x32811) L32493 (show Md [24] (upd I32488 24 0) (upd I32493 24 y32904) from Md.tr hI32493 (show Md [24] I32493 (upd I32493 24 y32904) from (Md.up Md.rf rfl)) rfl) (show Md [26] A32488 (up3 A32493 26 ((I32493 24).toNatClampNeg) x32811) from Md.tr hA32493 (show Md [26] A32493 (up3 A32493 26 ((I32493 24).toNatClampNeg) x32811) from (Md.up3 Md.rf rfl)) rfl) ⟨(IvM_f1 (I := I32493) (A := A32493) hV32493), (IvM_f2 (I := I32493) (A := A32493) hV32493), (IvM_f3 (I := I32493) (A := A32493) hV32493), (IvM_f4 (I := I32493) (A := A32493) hV32493), (IvM_f6 (I := I32493) (A := A32493) hV32493), (IvM_f8 (I := I32493) (A := A32493) hV32493), (IvM_f15 (I := I32493) (A := A32493) hV32493), (IvM_f16 (I := I32493) (A := A32493) hV32493), (IvM_f17 (I := I32493) (A := A32493) hV32493), (IvM_f18 (I := I32493) (A := A32493) hV32493), (IvM_f22 (I := I32493) (A := A32493) hV32493), (IvM_f23 (I := I32493) (A := A32493) hV32493), (show 0 ≤ y32904.toInt ∧ y32904.toInt ≤ 160 from ⟨by omega, by omega⟩), (IvM_a11 (I := I32493) (A := A32493) hV32493), hA32903, (IvM_s8_0 (I := I32493) (A := A32493) hV32493), (IvM_s8_1 (I := I32493) (A := A32493) hV32493), (IvM_s10_0 (I := I32493) (A := A32493) hV32493), (IvM_s10_1 (I := I32493) (A := A32493) hV32493), (IvM_s17_0 (I := I32493) (A := A32493) hV32493), (IvM_s17_164 (I := I32493) (A := A32493) hV32493), (IvM_lv (I := I32493) (A := A32493) hV32493), (IvM_sd (I := I32493) (A := A32493) hV32493), (IvM_nq (I := I32493) (A := A32493) hV32493), (IvM_hr (I := I32493) (A := A32493) hV32493), (IvM_hh (I := I32493) (A := A32493) hV32493), trivial⟩ (show L32493 = L32488 from hL32493) (by omega) (by omega) (di_st (m := (I32493 24)) (m2 := y32904) (b := x32811) (by omega) (by omega) hP32803 (hP32894 (by omega))) (by first | (rw [show ((upd I32493 24 y32904) 24) = y32904 from rfl] <;> omega) | omega) (by omega) hF)
            · skip
              replace hF := FE.neg hF c32901
              exact g_vret hk hR ⟨I32493, A32493, L32493, (show Md [18, 19, 20, 24] I I32493 from (Md.tr (Md.up (Md.tr Md.rf hI32488 rfl) rfl) hI32493 rfl)), (show Md [18, 19, 20, 21, 24, 26] A A32493 from (Md.tr (Md.tr Md.rf hA32488 rfl) hA32493 rfl)), hV32493, (show L32493 = L from (hL32493.trans hL32488)), hF, rfl, rfl⟩ dX12_fillsMatches_75
          · skip
            replace hF := FE.neg hF c32900
            refine g_aload_n hk dX12_fillsMatches_27 rfl ?_
            refine gM_r0_48 hk hin12 (List.mem_cons_of_mem _ (List.mem_append_left _ (List.mem_of_getElem? (i := 5) rfl))) dX12_fillsMatches_28 ?_
            refine g_iload_n hk dX12_fillsMatches_31 rfl ?_
            refine lM_24 (v := (A32488 24 x32810.toNatClampNeg)) hk (vp_in_iff.mpr ⟨by omega, by omega⟩) (congrFun (hA32493 24 rfl) _) dX12_fillsMatches_32 ?_
            have b32905l := Int32.le_toInt (A32488 24 x32810.toNatClampNeg)
            have b32905h := Int32.toInt_lt (A32488 24 x32810.toNatClampNeg)
            refine g_if_lt (tgt := 65) (a := (A32488 24 x32810.toNatClampNeg).toInt) hk dX12_fillsMatches_33 (by decide) rfl (fun c32906 => ?_) (fun c32906 => ?_)
            · skip
              replace hF := FE.pos hF c32906
              obtain ⟨y32907, ey32907⟩ : ∃ y : Int32, y = x32810 + Int32.ofInt 1 := ⟨_, rfl⟩
              replace hF := FE.lt hF ey32907
              have hy32907 : y32907.toInt = x32810.toInt + 1 := i32_add ey32907 rfl (by decide) (by omega) (by omega)
              refine g_iinc (v := y32907) (lv' := [(3, .int y32907), (2, .int x32811), (0, .ref (r 0)), (1, .int z1)]) hk 0 dX12_fillsMatches_65 rfl ey32907.symm (by decide) rfl ?_
              refine g_goto (tgt := 20) hk dX12_fillsMatches_68 (by decide) ?_
              exact g_lv (List.forall_mem_cons.mpr ⟨List.mem_of_getElem? (i := 0) rfl, (List.forall_mem_cons.mpr ⟨List.mem_of_getElem? (i := 1) rfl, (List.forall_mem_cons.mpr ⟨List.mem_of_getElem? (i := 2) rfl, (List.forall_mem_cons.mpr ⟨List.mem_of_getElem? (i := 3) rfl, (fun _ h => absurd h List.not_mem_nil)⟩)⟩)⟩)⟩) (ih32899 y32907 x32811 (by omega) (by omega) (by omega) (by omega) hP32894 (by omega) (by omega) hF)
            · skip
              replace hF := FE.neg hF c32906
              refine g_aload_n hk dX12_fillsMatches_36 rfl ?_
              refine g_iload_n hk dX12_fillsMatches_37 rfl ?_
              refine g_callV (n := 1) hk (j192_X12_isApart l D zt r g I32493 A32493 L32493 x32810 hV32493 (by omega) (by omega) (by first | (rw [show (A32493 18 164) = (A32488 18 164) from (congrFun (hA32493 18 rfl) _)] <;> omega) | omega)) (SP.same _) (fun _ h => h) (gi_V (List.mem_cons_of_mem _ (List.mem_append_left _ (List.mem_of_getElem? (i := 6) rfl))) (List.mem_cons_of_mem _ (List.mem_append_left _ (List.mem_of_getElem? (i := 7) rfl))) (List.mem_cons_of_mem _ (List.mem_append_left _ (List.mem_of_getElem? (i := 8) rfl))) (List.mem_cons_of_mem _ (List.mem_append_left _ (List.mem_of_getElem? (i := 3) rfl))) (gi_sub (fun w h => (List.mem_cons_of_mem _ (List.mem_append_right _ (List.mem_append_right _ (List.mem_append_right _ (List.mem_append_left _ h)))))) zg_j192_X12_isApart)) rfl rfl rfl (by decide +kernel) ⟨Nat.le_of_ble_eq_true rfl, Nat.le_of_ble_eq_true rfl⟩ 0 rfl rfl rfl rfl (Nat.le_of_ble_eq_true rfl) ⟨Nat.le_of_ble_eq_true rfl, Nat.le_of_ble_eq_true rfl⟩ dX12_fillsMatches_38 (fun v ty' w' hp hk' => ?_)
              rcases hp with ⟨hC, rfl, rfl⟩ | ⟨c32909, hC, rfl, rfl⟩
              · skip
                replace hF := FE.pos hF hC
                show GW κ 4 0 0 (wM r g I32493 A32493 L32493) 41 [(3, .int x32810), (2, .int x32811), (0, .ref (r 0)), (1, .int z1)] [.int 0]
                refine g_if_eq (tgt := 65) (a := 0) hk dX12_fillsMatches_41 (by decide) rfl (fun _ => ?_) (fun z9 => absurd (show (0 : Int) = (0 : Int) from by decide) z9)
                obtain ⟨y32911, ey32911⟩ : ∃ y : Int32, y = x32810 + Int32.ofInt 1 := ⟨_, rfl⟩
                replace hF := FE.lt hF ey32911
                have hy32911 : y32911.toInt = x32810.toInt + 1 := i32_add ey32911 rfl (by decide) (by omega) (by omega)
                refine g_iinc (v := y32911) (lv' := [(3, .int y32911), (2, .int x32811), (0, .ref (r 0)), (1, .int z1)]) hk 0 dX12_fillsMatches_65 rfl ey32911.symm (by decide) rfl ?_
                refine g_goto (tgt := 20) hk dX12_fillsMatches_68 (by decide) ?_
                exact g_lv (List.forall_mem_cons.mpr ⟨List.mem_of_getElem? (i := 0) rfl, (List.forall_mem_cons.mpr ⟨List.mem_of_getElem? (i := 1) rfl, (List.forall_mem_cons.mpr ⟨List.mem_of_getElem? (i := 2) rfl, (List.forall_mem_cons.mpr ⟨List.mem_of_getElem? (i := 3) rfl, (fun _ h => absurd h List.not_mem_nil)⟩)⟩)⟩)⟩) (ih32899 y32911 x32811 (by omega) (by omega) (by omega) (by omega) hP32894 (by omega) (by omega) hF)
              · skip
                replace hF := FE.neg hF (fe_ne hC (by decide))
                show GW κ 4 0 0 (wM r g I32493 A32493 L32493) 41 [(3, .int x32810), (2, .int x32811), (0, .ref (r 0)), (1, .int z1)] [.int 1]
                refine g_if_eq (tgt := 65) (a := 1) hk dX12_fillsMatches_41 (by decide) rfl (fun z9 => absurd z9 (show ¬ ((1 : Int) = (0 : Int)) from by decide)) (fun _ => ?_)
                refine g_iload_n hk dX12_fillsMatches_44 rfl ?_
                refine g_if_lt (tgt := 63) (a := x32811.toInt) hk dX12_fillsMatches_45 (by decide) rfl (fun c32912 => ?_) (fun c32912 => ?_)
                · skip
                  replace hF := FE.pos hF c32912
                  refine g_iload_n hk dX12_fillsMatches_63 rfl ?_
                  refine g_istore_n (lv' := [(2, .int x32810), (3, .int x32810), (0, .ref (r 0)), (1, .int z1)]) hk dX12_fillsMatches_64 (by decide) rfl ?_
                  obtain ⟨y32913, ey32913⟩ : ∃ y : Int32, y = x32810 + Int32.ofInt 1 := ⟨_, rfl⟩
                  replace hF := FE.lt hF ey32913
                  have hy32913 : y32913.toInt = x32810.toInt + 1 := i32_add ey32913 rfl (by decide) (by omega) (by omega)
                  refine g_iinc (v := y32913) (lv' := [(3, .int y32913), (2, .int x32810), (0, .ref (r 0)), (1, .int z1)]) hk 1 dX12_fillsMatches_65 rfl ey32913.symm (by decide) rfl ?_
                  refine g_goto (tgt := 20) hk dX12_fillsMatches_68 (by decide) ?_
                  exact g_lv (List.forall_mem_cons.mpr ⟨List.mem_of_getElem? (i := 0) rfl, (List.forall_mem_cons.mpr ⟨List.mem_of_getElem? (i := 1) rfl, (List.forall_mem_cons.mpr ⟨List.mem_of_getElem? (i := 2) rfl, (List.forall_mem_cons.mpr ⟨List.mem_of_getElem? (i := 3) rfl, (fun _ h => absurd h List.not_mem_nil)⟩)⟩)⟩)⟩) (ih32899 y32913 x32810 (by omega) (by omega) (by omega) (by omega) (fun _ => c32909) (by omega) (by omega) hF)
                · skip
                  replace hF := FE.neg hF c32912
                  refine g_aload_n hk dX12_fillsMatches_48 rfl ?_
                  refine gM_r0_48 hk hin12 (List.mem_cons_of_mem _ (List.mem_append_left _ (List.mem_of_getElem? (i := 5) rfl))) dX12_fillsMatches_49 ?_
                  refine g_iload_n hk dX12_fillsMatches_52 rfl ?_
                  refine lM_24 (v := (A32488 24 x32810.toNatClampNeg)) hk (vp_in_iff.mpr ⟨by omega, by omega⟩) (congrFun (hA32493 24 rfl) _) dX12_fillsMatches_53 ?_
                  refine g_aload_n hk dX12_fillsMatches_54 rfl ?_
                  refine gM_r0_48 hk hin12 (List.mem_cons_of_mem _ (List.mem_append_left _ (List.mem_of_getElem? (i := 5) rfl))) dX12_fillsMatches_55 ?_
                  refine g_iload_n hk dX12_fillsMatches_58 rfl ?_
                  refine lM_24 (v := (A32488 24 x32811.toNatClampNeg)) hk (vp_in_iff.mpr ⟨by omega, by omega⟩) (congrFun (hA32493 24 rfl) _) dX12_fillsMatches_59 ?_
                  have b32914l := Int32.le_toInt (A32488 24 x32811.toNatClampNeg)
                  have b32914h := Int32.toInt_lt (A32488 24 x32811.toNatClampNeg)
                  refine g_icmp_ge (tgt := 65) (a := (A32488 24 x32810.toNatClampNeg).toInt) (b := (A32488 24 x32811.toNatClampNeg).toInt) hk dX12_fillsMatches_60 (by decide) rfl rfl (fun c32915 => ?_) (fun c32915 => ?_)
                  · skip
                    replace hF := FE.pos hF c32915
                    obtain ⟨y32916, ey32916⟩ : ∃ y : Int32, y = x32810 + Int32.ofInt 1 := ⟨_, rfl⟩
                    replace hF := FE.lt hF ey32916
                    have hy32916 : y32916.toInt = x32810.toInt + 1 := i32_add ey32916 rfl (by decide) (by omega) (by omega)
                    refine g_iinc (v := y32916) (lv' := [(3, .int y32916), (2, .int x32811), (0, .ref (r 0)), (1, .int z1)]) hk 0 dX12_fillsMatches_65 rfl ey32916.symm (by decide) rfl ?_
                    refine g_goto (tgt := 20) hk dX12_fillsMatches_68 (by decide) ?_
                    exact g_lv (List.forall_mem_cons.mpr ⟨List.mem_of_getElem? (i := 0) rfl, (List.forall_mem_cons.mpr ⟨List.mem_of_getElem? (i := 1) rfl, (List.forall_mem_cons.mpr ⟨List.mem_of_getElem? (i := 2) rfl, (List.forall_mem_cons.mpr ⟨List.mem_of_getElem? (i := 3) rfl, (fun _ h => absurd h List.not_mem_nil)⟩)⟩)⟩)⟩) (ih32899 y32916 x32811 (by omega) (by omega) (by omega) (by omega) hP32894 (by omega) (by omega) hF)
                  · skip
                    replace hF := FE.neg hF c32915
                    refine g_iload_n hk dX12_fillsMatches_63 rfl ?_
                    refine g_istore_n (lv' := [(2, .int x32810), (3, .int x32810), (0, .ref (r 0)), (1, .int z1)]) hk dX12_fillsMatches_64 (by decide) rfl ?_
                    obtain ⟨y32917, ey32917⟩ : ∃ y : Int32, y = x32810 + Int32.ofInt 1 := ⟨_, rfl⟩
                    replace hF := FE.lt hF ey32917
                    have hy32917 : y32917.toInt = x32810.toInt + 1 := i32_add ey32917 rfl (by decide) (by omega) (by omega)
                    refine g_iinc (v := y32917) (lv' := [(3, .int y32917), (2, .int x32810), (0, .ref (r 0)), (1, .int z1)]) hk 1 dX12_fillsMatches_65 rfl ey32917.symm (by decide) rfl ?_
                    refine g_goto (tgt := 20) hk dX12_fillsMatches_68 (by decide) ?_
                    exact g_lv (List.forall_mem_cons.mpr ⟨List.mem_of_getElem? (i := 0) rfl, (List.forall_mem_cons.mpr ⟨List.mem_of_getElem? (i := 1) rfl, (List.forall_mem_cons.mpr ⟨List.mem_of_getElem? (i := 2) rfl, (List.forall_mem_cons.mpr ⟨List.mem_of_getElem? (i := 3) rfl, (fun _ h => absurd h List.not_mem_nil)⟩)⟩)⟩)⟩) (ih32899 y32917 x32810 (by omega) (by omega) (by omega) (by omega) (fun _ => c32909) (by omega) (by omega) hF)
      have k32918 : (0 : Int32).toInt = 0 := rfl
      have k32919 : ((-1) : Int32).toInt = (-1) := rfl
      have b32921 := Int32.le_toInt (0 : Int32)
      have b32922 := Int32.toInt_lt (0 : Int32)
      have n32920a : 161 - (0 : Int32).toInt < (FU : Int) := by have := FU_eq; omega
      have n32920b : 0 < FU := by have := FU_eq; omega
      exact lp32895 FU 0 (-1) (by omega) (by omega) (by omega) (by omega) (fun h => absurd (show 0 ≤ (-1 : Int32).toInt from h) (by decide)) n32920a n32920b hF
  have k32923 : (0 : Int32).toInt = 0 := rfl
  have b32925 := Int32.le_toInt (0 : Int32)
  have b32926 := Int32.toInt_lt (0 : Int32)
  have n32924a : 161 - (0 : Int32).toInt < (FU : Int) := by have := FU_eq; omega
  have n32924b : 0 < FU := by have := FU_eq; omega
  exact lp32804 FU 0 (upd I32488 24 0) A32488 L32488 Md.rf Md.rf ⟨(IvM_f1 (I := I32488) (A := A32488) hV32488), (IvM_f2 (I := I32488) (A := A32488) hV32488), (IvM_f3 (I := I32488) (A := A32488) hV32488), (IvM_f4 (I := I32488) (A := A32488) hV32488), (IvM_f6 (I := I32488) (A := A32488) hV32488), (IvM_f8 (I := I32488) (A := A32488) hV32488), (IvM_f15 (I := I32488) (A := A32488) hV32488), (IvM_f16 (I := I32488) (A := A32488) hV32488), (IvM_f17 (I := I32488) (A := A32488) hV32488), (IvM_f18 (I := I32488) (A := A32488) hV32488), (IvM_f22 (I := I32488) (A := A32488) hV32488), (IvM_f23 (I := I32488) (A := A32488) hV32488), (show 0 ≤ (0 : Int32).toInt ∧ (0 : Int32).toInt ≤ 160 from ⟨by decide, by decide⟩), (IvM_a11 (I := I32488) (A := A32488) hV32488), (IvM_a26 (I := I32488) (A := A32488) hV32488), (IvM_s8_0 (I := I32488) (A := A32488) hV32488), (IvM_s8_1 (I := I32488) (A := A32488) hV32488), (IvM_s10_0 (I := I32488) (A := A32488) hV32488), (IvM_s10_1 (I := I32488) (A := A32488) hV32488), (IvM_s17_0 (I := I32488) (A := A32488) hV32488), (IvM_s17_164 (I := I32488) (A := A32488) hV32488), (IvM_lv (I := I32488) (A := A32488) hV32488), (IvM_sd (I := I32488) (A := A32488) hV32488), (IvM_nq (I := I32488) (A := A32488) hV32488), (IvM_hr (I := I32488) (A := A32488) hV32488), (IvM_hh (I := I32488) (A := A32488) hV32488), trivial⟩ rfl (by omega) (by omega) (fun i j _ hj => absurd (show (j : Int) < (0 : Int32).toInt from hj) (by have : (0 : Int32).toInt = 0 := rfl; omega)) (by first | exact n32924a | (rw [show ((upd I32488 24 0) 24) = (0 : Int32) from rfl] <;> exact n32924a)) n32924b hF
noncomputable def fM12_match (I : Nat → Int32) (A : Nat → Nat → Int32) (L : Nat → Nat → Int64) (z1 : Int32) (z2 : Int32) (z3 : Int32) : Int32 × (Nat → Int32) × (Nat → Nat → Int32) × (Nat → Nat → Int64) := if fM12_isQuery I A L z1 = 0 then ((-1), I, A, L) else if z2.toInt < 0 then ((-1), I, A, L) else if fM12_in I A L z3 0 1 = 0 then ((-1), I, A, L) else f_bdM (fM12_fillsMatches I A L z1) fun _ I32928 A32928 L32928 => if z2.toInt < (I32928 24).toInt then if z3.toInt ≠ 0 then ((A32928 24 (A32928 26 z2.toNatClampNeg).toNatClampNeg), I32928, A32928, L32928) else ((A32928 26 z2.toNatClampNeg), I32928, A32928, L32928) else ((-2), I32928, A32928, L32928)
def wo_j190_X12_match : List Cond := [Cond.methodLink RX12 251 yX12_isQuery, Cond.instanceMethod yX12_isQuery, Cond.selects RX12 yX12_isQuery yX12_isQuery, Cond.initialized RX12, Cond.methodLink RX12 244 yX12_in, Cond.static yX12_in, Cond.methodLink RX12 372 yX12_fillsMatches, Cond.instanceMethod yX12_fillsMatches, Cond.selects RX12 yX12_fillsMatches yX12_fillsMatches, Cond.fieldLink RX12 366 "WarpDeskModel" "matchMany" "I", Cond.fieldLink RX12 91 "WarpDeskModel" "farBy" "[I", Cond.fieldLink RX12 97 "WarpDeskModel" "matchAt" "[I"]
def wz_j190_X12_match : List Cond := .code yX12_match cX12_match 4 (some .int) :: (wo_j190_X12_match ++ (wsX120 ++ (wz_j147_X12_isQuery ++ (wz_j145_X12_in ++ (wz_j191_X12_fillsMatches ++ ([] : List Cond))))))
theorem zg_j190_X12_match : ∀ w ∈ wz_j190_X12_match, goodWord w = true := zg_cons rfl (zg_app (by decide +kernel) (zg_app zgU_wsX120 (zg_app zg_j147_X12_isQuery (zg_app zg_j145_X12_in (zg_app zg_j191_X12_fillsMatches zg_nil)))))
theorem zi_j190_X12_match : ∀ w ∈ wz_j190_X12_match, w ∈ lw_tbl := zi_cons zw_1867 (zi_app (zi_cons zw_1663 (zi_cons zw_1665 (zi_cons zw_67 (zi_cons zw_115 (zi_cons zw_1656 (zi_cons zw_1657 (zi_cons zw_1868 (zi_cons zw_1870 (zi_cons zw_96 (zi_cons zw_1428 (zi_cons zw_1426 (zi_cons zw_1429 zi_nil)))))))))))) (zi_app inX12 (zi_app zi_j147_X12_isQuery (zi_app zi_j145_X12_in (zi_app zi_j191_X12_fillsMatches zi_nil)))))
set_option maxHeartbeats 4000000 in
set_option maxRecDepth 100000 in
theorem j190_X12_match (l : Launch) (D : va_G) (zt : Nat × Nat × Nat × (Nat → Nat) × (Nat → Nat)) (r : Nat → Nat) (g : Nat → ClassId) (I : Nat → Int32) (A : Nat → Nat → Int32) (L : Nat → Nat → Int64) (z1 : Int32) (z2 : Int32) (z3 : Int32) (hIv : IvM I A) : GM l D zt (tyM g) yX12_match wz_j190_X12_match ({ frames := 8, cells := 0, slots := 0, locals := 179 } : Room) [.ref (r 0), .int z1, .int z2, .int z3] (wM r g I A L) (fun v _ w' => ∃ (I' : Nat → Int32) (A' : Nat → Nat → Int32) (L' : Nat → Nat → Int64), Md [18, 19, 20, 24] I I' ∧ Md [18, 19, 20, 21, 24, 26] A A' ∧ IvM I' A' ∧ ∃ y0 : Int32, (L' = L) ∧ FE (fM12_match I A L z1 z2 z3) (y0, I', A', L') ∧ v = some (.int y0) ∧ w' = wM r g I' A' L') 0 0 := by
  refine GM.of (cc := cX12_match) (maxL := 4) (ret := (some .int)) (own := RX12) (lv := [(0, .ref (r 0)), (1, .int z1), (2, .int z2), (3, .int z3)]) (by decide) rfl rfl (Nat.le_of_ble_eq_true rfl) rfl (fun κ sz hk hR hN => ?_)
  have hin12 : ∀ w ∈ u_ws RX12 TX12 55, w ∈ wz_j190_X12_match := fun w h => (List.mem_cons_of_mem _ (List.mem_append_right _ (List.mem_append_left _ h)))
  have hF : FE (fM12_match I A L z1 z2 z3) (fM12_match I A L z1 z2 z3) := FE.rf
  refine g_aload_n hk dX12_match_0 rfl ?_
  refine g_iload_n hk dX12_match_1 rfl ?_
  refine g_callV (n := 1) hk (j147_X12_isQuery l D zt r g I A L z1 hIv) (SP.same _) (fun _ h => h) (gi_V (List.mem_cons_of_mem _ (List.mem_append_left _ (List.mem_of_getElem? (i := 0) rfl))) (List.mem_cons_of_mem _ (List.mem_append_left _ (List.mem_of_getElem? (i := 1) rfl))) (List.mem_cons_of_mem _ (List.mem_append_left _ (List.mem_of_getElem? (i := 2) rfl))) (List.mem_cons_of_mem _ (List.mem_append_left _ (List.mem_of_getElem? (i := 3) rfl))) (gi_sub (fun w h => (List.mem_cons_of_mem _ (List.mem_append_right _ (List.mem_append_right _ (List.mem_append_left _ h))))) zg_j147_X12_isQuery)) rfl rfl rfl (by decide +kernel) ⟨Nat.le_of_ble_eq_true rfl, Nat.le_of_ble_eq_true rfl⟩ 0 rfl rfl rfl rfl (Nat.le_of_ble_eq_true rfl) ⟨Nat.le_of_ble_eq_true rfl, Nat.le_of_ble_eq_true rfl⟩ dX12_match_2 (fun v ty' w' hp hk' => ?_)
  rcases hp with ⟨hC, rfl, rfl⟩ | ⟨c32471, c32472, c32473, c32474, hC, rfl, rfl⟩
  · skip
    replace hF := FE.pos hF hC
    show GW κ 4 0 0 (wM r g I A L) 5 [(0, .ref (r 0)), (1, .int z1), (2, .int z2), (3, .int z3)] [.int 0]
    refine g_if_eq (tgt := 21) (a := 0) hk dX12_match_5 (by decide) rfl (fun _ => ?_) (fun z9 => absurd (show (0 : Int) = (0 : Int) from by decide) z9)
    refine g_iconst (v := (-1)) hk dX12_match_21 (by decide) ?_
    exact g_iret hk hR rfl ⟨I, A, L, (show Md [18, 19, 20, 24] I I from Md.rf), (show Md [18, 19, 20, 21, 24, 26] A A from Md.rf), hIv, (-1), (show L = L from rfl), hF, rfl, rfl⟩ dX12_match_22
  · skip
    replace hF := FE.neg hF (fe_ne hC (by decide))
    have f32476 : 0 ≤ (A 11 (5 * (I 15) + z1).toNatClampNeg).toInt ∧ (A 11 (5 * (I 15) + z1).toNatClampNeg).toInt ≤ 16 := IvM_a11 hIv _
    show GW κ 4 0 0 (wM r g I A L) 5 [(0, .ref (r 0)), (1, .int z1), (2, .int z2), (3, .int z3)] [.int 1]
    refine g_if_eq (tgt := 21) (a := 1) hk dX12_match_5 (by decide) rfl (fun z9 => absurd z9 (show ¬ ((1 : Int) = (0 : Int)) from by decide)) (fun _ => ?_)
    refine g_iload_n hk dX12_match_8 rfl ?_
    have b32477l := Int32.le_toInt z2
    have b32477h := Int32.toInt_lt z2
    refine g_if_lt (tgt := 21) (a := z2.toInt) hk dX12_match_9 (by decide) rfl (fun c32478 => ?_) (fun c32478 => ?_)
    · skip
      replace hF := FE.pos hF c32478
      refine g_iconst (v := (-1)) hk dX12_match_21 (by decide) ?_
      exact g_iret hk hR rfl ⟨I, A, L, (show Md [18, 19, 20, 24] I I from Md.rf), (show Md [18, 19, 20, 21, 24, 26] A A from Md.rf), hIv, (-1), (show L = L from rfl), hF, rfl, rfl⟩ dX12_match_22
    · skip
      replace hF := FE.neg hF c32478
      refine g_iload_n hk dX12_match_12 rfl ?_
      refine g_iconst (v := 0) hk dX12_match_13 (by decide) ?_
      refine g_iconst (v := 1) hk dX12_match_14 (by decide) ?_
      have k32479 : (0 : Int32).toInt = 0 := rfl
      have k32480 : (1 : Int32).toInt = 1 := rfl
      refine g_callS (n := 3) hk (j145_X12_in l D zt r g I A L z3 0 1 hIv) (SP.same _) (fun _ h => h) (gi_S (List.mem_cons_of_mem _ (List.mem_append_left _ (List.mem_of_getElem? (i := 4) rfl))) (List.mem_cons_of_mem _ (List.mem_append_left _ (List.mem_of_getElem? (i := 5) rfl))) (List.mem_cons_of_mem _ (List.mem_append_left _ (List.mem_of_getElem? (i := 3) rfl))) (gi_sub (fun w h => (List.mem_cons_of_mem _ (List.mem_append_right _ (List.mem_append_right _ (List.mem_append_right _ (List.mem_append_left _ h)))))) zg_j145_X12_in)) rfl rfl rfl (by decide +kernel) ⟨Nat.le_of_ble_eq_true rfl, Nat.le_of_ble_eq_true rfl⟩ rfl rfl (Nat.le_of_ble_eq_true rfl) ⟨Nat.le_of_ble_eq_true rfl, Nat.le_of_ble_eq_true rfl⟩ dX12_match_15 (fun v ty' w' hp hk' => ?_)
      rcases hp with ⟨c32481, hC, rfl, rfl⟩ | ⟨c32483, c32484, hC, rfl, rfl⟩
      · skip
        replace hF := FE.pos hF hC
        have b32486l := Int32.le_toInt z3
        have b32486h := Int32.toInt_lt z3
        show GW κ 4 0 0 (wM r g I A L) 18 [(0, .ref (r 0)), (1, .int z1), (2, .int z2), (3, .int z3)] [.int 0]
        refine g_if_ne (tgt := 23) (a := 0) hk dX12_match_18 (by decide) rfl (fun z9 => absurd z9 (show ¬ ((0 : Int) ≠ (0 : Int)) from by decide)) (fun _ => ?_)
        refine g_iconst (v := (-1)) hk dX12_match_21 (by decide) ?_
        exact g_iret hk hR rfl ⟨I, A, L, (show Md [18, 19, 20, 24] I I from Md.rf), (show Md [18, 19, 20, 21, 24, 26] A A from Md.rf), hIv, (-1), (show L = L from rfl), hF, rfl, rfl⟩ dX12_match_22
      · skip
        replace hF := FE.neg hF (fe_ne hC (by decide))
        show GW κ 4 0 0 (wM r g I A L) 18 [(0, .ref (r 0)), (1, .int z1), (2, .int z2), (3, .int z3)] [.int 1]
        refine g_if_ne (tgt := 23) (a := 1) hk dX12_match_18 (by decide) rfl (fun _ => ?_) (fun z9 => absurd (show (1 : Int) ≠ (0 : Int) from by decide) z9)
        refine g_aload_n hk dX12_match_23 rfl ?_
        refine g_iload_n hk dX12_match_24 rfl ?_
        refine g_callV (n := 1) hk (j191_X12_fillsMatches l D zt r g I A L z1 hIv (by omega) (by omega)) (SP.same _) (fun _ h => h) (gi_V (List.mem_cons_of_mem _ (List.mem_append_left _ (List.mem_of_getElem? (i := 6) rfl))) (List.mem_cons_of_mem _ (List.mem_append_left _ (List.mem_of_getElem? (i := 7) rfl))) (List.mem_cons_of_mem _ (List.mem_append_left _ (List.mem_of_getElem? (i := 8) rfl))) (List.mem_cons_of_mem _ (List.mem_append_left _ (List.mem_of_getElem? (i := 3) rfl))) (gi_sub (fun w h => (List.mem_cons_of_mem _ (List.mem_append_right _ (List.mem_append_right _ (List.mem_append_right _ (List.mem_append_right _ (List.mem_append_left _ h))))))) zg_j191_X12_fillsMatches)) rfl rfl rfl (by decide +kernel) ⟨Nat.le_of_ble_eq_true rfl, Nat.le_of_ble_eq_true rfl⟩ 0 rfl rfl rfl rfl (Nat.le_of_ble_eq_true rfl) ⟨Nat.le_of_ble_eq_true rfl, Nat.le_of_ble_eq_true rfl⟩ dX12_match_25 (fun v ty' w' hp hk' => ?_)
        obtain ⟨I32928, A32928, L32928, hI32928, hA32928, hV32928, hL32928, hC, rfl, rfl⟩ := hp
        replace hF := FE.bdM hF hC
        show GW κ 4 0 0 (wM r g I32928 A32928 L32928) 28 [(0, .ref (r 0)), (1, .int z1), (2, .int z2), (3, .int z3)] []
        refine g_iload_n hk dX12_match_28 rfl ?_
        refine g_aload_n hk dX12_match_29 rfl ?_
        refine gM_i24 (v := (I32928 24)) hk hin12 (List.mem_cons_of_mem _ (List.mem_append_left _ (List.mem_of_getElem? (i := 9) rfl))) dX12_match_30 rfl ?_
        have f32929 := IvM_f24 hV32928
        refine g_icmp_lt (tgt := 39) (a := z2.toInt) (b := (I32928 24).toInt) hk dX12_match_33 (by decide) rfl rfl (fun c32930 => ?_) (fun c32930 => ?_)
        · skip
          replace hF := FE.pos hF c32930
          refine g_iload_n hk dX12_match_39 rfl ?_
          refine g_if_ne (tgt := 52) (a := z3.toInt) hk dX12_match_40 (by decide) rfl (fun c32931 => ?_) (fun c32931 => ?_)
          · skip
            replace hF := FE.pos hF c32931
            refine g_aload_n hk dX12_match_52 rfl ?_
            refine gM_r0_48 hk hin12 (List.mem_cons_of_mem _ (List.mem_append_left _ (List.mem_of_getElem? (i := 10) rfl))) dX12_match_53 ?_
            refine g_aload_n hk dX12_match_56 rfl ?_
            refine gM_r0_51 hk hin12 (List.mem_cons_of_mem _ (List.mem_append_left _ (List.mem_of_getElem? (i := 11) rfl))) dX12_match_57 ?_
            refine g_iload_n hk dX12_match_60 rfl ?_
            refine lM_26 (v := (A32928 26 z2.toNatClampNeg)) hk (vp_in_iff.mpr ⟨by omega, by omega⟩) rfl dX12_match_61 ?_
            have f32932 := IvM_a26 hV32928 (z2.toNatClampNeg)
            refine lM_24 (v := (A32928 24 (A32928 26 z2.toNatClampNeg).toNatClampNeg)) hk (vp_in_iff.mpr ⟨by omega, by omega⟩) rfl dX12_match_62 ?_
            have b32933l := Int32.le_toInt (A32928 24 (A32928 26 z2.toNatClampNeg).toNatClampNeg)
            have b32933h := Int32.toInt_lt (A32928 24 (A32928 26 z2.toNatClampNeg).toNatClampNeg)
            exact g_iret hk hR rfl ⟨I32928, A32928, L32928, (show Md [18, 19, 20, 24] I I32928 from (Md.tr Md.rf hI32928 rfl)), (show Md [18, 19, 20, 21, 24, 26] A A32928 from (Md.tr Md.rf hA32928 rfl)), hV32928, (A32928 24 (A32928 26 z2.toNatClampNeg).toNatClampNeg), (show L32928 = L from hL32928), hF, rfl, rfl⟩ dX12_match_63
          · skip
            replace hF := FE.neg hF c32931
            refine g_aload_n hk dX12_match_43 rfl ?_
            refine gM_r0_51 hk hin12 (List.mem_cons_of_mem _ (List.mem_append_left _ (List.mem_of_getElem? (i := 11) rfl))) dX12_match_44 ?_
            refine g_iload_n hk dX12_match_47 rfl ?_
            refine lM_26 (v := (A32928 26 z2.toNatClampNeg)) hk (vp_in_iff.mpr ⟨by omega, by omega⟩) rfl dX12_match_48 ?_
            have f32934 := IvM_a26 hV32928 (z2.toNatClampNeg)
            refine g_goto (tgt := 63) hk dX12_match_49 (by decide) ?_
            exact g_iret hk hR rfl ⟨I32928, A32928, L32928, (show Md [18, 19, 20, 24] I I32928 from (Md.tr Md.rf hI32928 rfl)), (show Md [18, 19, 20, 21, 24, 26] A A32928 from (Md.tr Md.rf hA32928 rfl)), hV32928, (A32928 26 z2.toNatClampNeg), (show L32928 = L from hL32928), hF, rfl, rfl⟩ dX12_match_63
        · skip
          replace hF := FE.neg hF c32930
          refine g_bipush (v := (-2)) hk dX12_match_36 (by decide) ?_
          exact g_iret hk hR rfl ⟨I32928, A32928, L32928, (show Md [18, 19, 20, 24] I I32928 from (Md.tr Md.rf hI32928 rfl)), (show Md [18, 19, 20, 21, 24, 26] A A32928 from (Md.tr Md.rf hA32928 rfl)), hV32928, (-2), (show L32928 = L from hL32928), hF, rfl, rfl⟩ dX12_match_38
noncomputable def bM12_within_24 (I32945 : Nat → Int32) (A32945 : Nat → Nat → Int32) (L32945 : Nat → Nat → Int64) (z2 : Int32) : (Int32 → Int32 → (Int32 × (Nat → Int32) × (Nat → Nat → Int32) × (Nat → Nat → Int64))) → Int32 → Int32 → (Int32 × (Nat → Int32) × (Nat → Nat → Int32) × (Nat → Nat → Int64)) := fun kk32999 x32946 x32947 => if (I32945 24).toInt ≤ x32946.toInt then (x32947, I32945, A32945, L32945) else if z2.toInt < (A32945 24 (A32945 26 x32946.toNatClampNeg).toNatClampNeg).toInt then f_lt (x32946 + Int32.ofInt 1) fun y33007 => kk32999 y33007 x32947 else f_lt (x32947 + Int32.ofInt 1) fun y33010 => f_lt (x32946 + Int32.ofInt 1) fun y33011 => kk32999 y33011 y33010
noncomputable def fM12_within (I : Nat → Int32) (A : Nat → Nat → Int32) (L : Nat → Nat → Int64) (z1 : Int32) (z2 : Int32) : Int32 × (Nat → Int32) × (Nat → Nat → Int32) × (Nat → Nat → Int64) := if fM12_isQuery I A L z1 = 0 then ((-1), I, A, L) else if 0 ≤ z2.toInt then f_bdM (fM12_fillsMatches I A L z1) fun _ I32945 A32945 L32945 => itr_ii dfM (bM12_within_24 I32945 A32945 L32945 z2) FU 0 0 else ((-1), I, A, L)
def wo_j193_X12_within : List Cond := [Cond.methodLink RX12 251 yX12_isQuery, Cond.instanceMethod yX12_isQuery, Cond.selects RX12 yX12_isQuery yX12_isQuery, Cond.initialized RX12, Cond.methodLink RX12 372 yX12_fillsMatches, Cond.instanceMethod yX12_fillsMatches, Cond.selects RX12 yX12_fillsMatches yX12_fillsMatches, Cond.fieldLink RX12 366 "WarpDeskModel" "matchMany" "I", Cond.fieldLink RX12 91 "WarpDeskModel" "farBy" "[I", Cond.fieldLink RX12 97 "WarpDeskModel" "matchAt" "[I"]
def wz_j193_X12_within : List Cond := .code yX12_within cX12_within 5 (some .int) :: (wo_j193_X12_within ++ (wsX120 ++ (wz_j147_X12_isQuery ++ (wz_j191_X12_fillsMatches ++ ([] : List Cond)))))
theorem zg_j193_X12_within : ∀ w ∈ wz_j193_X12_within, goodWord w = true := zg_cons rfl (zg_app (by decide +kernel) (zg_app zgU_wsX120 (zg_app zg_j147_X12_isQuery (zg_app zg_j191_X12_fillsMatches zg_nil))))
theorem zi_j193_X12_within : ∀ w ∈ wz_j193_X12_within, w ∈ lw_tbl := zi_cons zw_1879 (zi_app (zi_cons zw_1663 (zi_cons zw_1665 (zi_cons zw_67 (zi_cons zw_115 (zi_cons zw_1868 (zi_cons zw_1870 (zi_cons zw_96 (zi_cons zw_1428 (zi_cons zw_1426 (zi_cons zw_1429 zi_nil)))))))))) (zi_app inX12 (zi_app zi_j147_X12_isQuery (zi_app zi_j191_X12_fillsMatches zi_nil))))
set_option maxHeartbeats 4000000 in
set_option maxRecDepth 100000 in
theorem j193_X12_within (l : Launch) (D : va_G) (zt : Nat × Nat × Nat × (Nat → Nat) × (Nat → Nat)) (r : Nat → Nat) (g : Nat → ClassId) (I : Nat → Int32) (A : Nat → Nat → Int32) (L : Nat → Nat → Int64) (z1 : Int32) (z2 : Int32) (hIv : IvM I A) : GM l D zt (tyM g) yX12_within wz_j193_X12_within ({ frames := 8, cells := 0, slots := 0, locals := 179 } : Room) [.ref (r 0), .int z1, .int z2] (wM r g I A L) (fun v _ w' => ∃ (I' : Nat → Int32) (A' : Nat → Nat → Int32) (L' : Nat → Nat → Int64), Md [18, 19, 20, 24] I I' ∧ Md [18, 19, 20, 21, 24, 26] A A' ∧ IvM I' A' ∧ ∃ y0 : Int32, (L' = L) ∧ FE (fM12_within I A L z1 z2) (y0, I', A', L') ∧ v = some (.int y0) ∧ w' = wM r g I' A' L') 0 0 := by
  refine GM.of (cc := cX12_within) (maxL := 5) (ret := (some .int)) (own := RX12) (lv := [(0, .ref (r 0)), (1, .int z1), (2, .int z2)]) (by decide) rfl rfl (Nat.le_of_ble_eq_true rfl) rfl (fun κ sz hk hR hN => ?_)
  have hin12 : ∀ w ∈ u_ws RX12 TX12 55, w ∈ wz_j193_X12_within := fun w h => (List.mem_cons_of_mem _ (List.mem_append_right _ (List.mem_append_left _ h)))
  have hF : FE (fM12_within I A L z1 z2) (fM12_within I A L z1 z2) := FE.rf
  refine g_aload_n hk dX12_within_0 rfl ?_
  refine g_iload_n hk dX12_within_1 rfl ?_
  refine g_callV (n := 1) hk (j147_X12_isQuery l D zt r g I A L z1 hIv) (SP.same _) (fun _ h => h) (gi_V (List.mem_cons_of_mem _ (List.mem_append_left _ (List.mem_of_getElem? (i := 0) rfl))) (List.mem_cons_of_mem _ (List.mem_append_left _ (List.mem_of_getElem? (i := 1) rfl))) (List.mem_cons_of_mem _ (List.mem_append_left _ (List.mem_of_getElem? (i := 2) rfl))) (List.mem_cons_of_mem _ (List.mem_append_left _ (List.mem_of_getElem? (i := 3) rfl))) (gi_sub (fun w h => (List.mem_cons_of_mem _ (List.mem_append_right _ (List.mem_append_right _ (List.mem_append_left _ h))))) zg_j147_X12_isQuery)) rfl rfl rfl (by decide +kernel) ⟨Nat.le_of_ble_eq_true rfl, Nat.le_of_ble_eq_true rfl⟩ 0 rfl rfl rfl rfl (Nat.le_of_ble_eq_true rfl) ⟨Nat.le_of_ble_eq_true rfl, Nat.le_of_ble_eq_true rfl⟩ dX12_within_2 (fun v ty' w' hp hk' => ?_)
  rcases hp with ⟨hC, rfl, rfl⟩ | ⟨c32936, c32937, c32938, c32939, hC, rfl, rfl⟩
  · skip
    replace hF := FE.pos hF hC
    show GW κ 5 0 0 (wM r g I A L) 5 [(0, .ref (r 0)), (1, .int z1), (2, .int z2)] [.int 0]
    refine g_if_eq (tgt := 12) (a := 0) hk dX12_within_5 (by decide) rfl (fun _ => ?_) (fun z9 => absurd (show (0 : Int) = (0 : Int) from by decide) z9)
    refine g_iconst (v := (-1)) hk dX12_within_12 (by decide) ?_
    exact g_iret hk hR rfl ⟨I, A, L, (show Md [18, 19, 20, 24] I I from Md.rf), (show Md [18, 19, 20, 21, 24, 26] A A from Md.rf), hIv, (-1), (show L = L from rfl), hF, rfl, rfl⟩ dX12_within_13
  · skip
    replace hF := FE.neg hF (fe_ne hC (by decide))
    have f32941 : 0 ≤ (A 11 (5 * (I 15) + z1).toNatClampNeg).toInt ∧ (A 11 (5 * (I 15) + z1).toNatClampNeg).toInt ≤ 16 := IvM_a11 hIv _
    show GW κ 5 0 0 (wM r g I A L) 5 [(0, .ref (r 0)), (1, .int z1), (2, .int z2)] [.int 1]
    refine g_if_eq (tgt := 12) (a := 1) hk dX12_within_5 (by decide) rfl (fun z9 => absurd z9 (show ¬ ((1 : Int) = (0 : Int)) from by decide)) (fun _ => ?_)
    refine g_iload_n hk dX12_within_8 rfl ?_
    have b32942l := Int32.le_toInt z2
    have b32942h := Int32.toInt_lt z2
    refine g_if_ge (tgt := 14) (a := z2.toInt) hk dX12_within_9 (by decide) rfl (fun c32943 => ?_) (fun c32943 => ?_)
    · skip
      replace hF := FE.pos hF c32943
      refine g_aload_n hk dX12_within_14 rfl ?_
      refine g_iload_n hk dX12_within_15 rfl ?_
      refine g_callV (n := 1) hk (j191_X12_fillsMatches l D zt r g I A L z1 hIv (by omega) (by omega)) (SP.same _) (fun _ h => h) (gi_V (List.mem_cons_of_mem _ (List.mem_append_left _ (List.mem_of_getElem? (i := 4) rfl))) (List.mem_cons_of_mem _ (List.mem_append_left _ (List.mem_of_getElem? (i := 5) rfl))) (List.mem_cons_of_mem _ (List.mem_append_left _ (List.mem_of_getElem? (i := 6) rfl))) (List.mem_cons_of_mem _ (List.mem_append_left _ (List.mem_of_getElem? (i := 3) rfl))) (gi_sub (fun w h => (List.mem_cons_of_mem _ (List.mem_append_right _ (List.mem_append_right _ (List.mem_append_right _ (List.mem_append_left _ h)))))) zg_j191_X12_fillsMatches)) rfl rfl rfl (by decide +kernel) ⟨Nat.le_of_ble_eq_true rfl, Nat.le_of_ble_eq_true rfl⟩ 0 rfl rfl rfl rfl (Nat.le_of_ble_eq_true rfl) ⟨Nat.le_of_ble_eq_true rfl, Nat.le_of_ble_eq_true rfl⟩ dX12_within_16 (fun v ty' w' hp hk' => ?_)
      obtain ⟨I32945, A32945, L32945, hI32945, hA32945, hV32945, hL32945, hC, rfl, rfl⟩ := hp
      replace hF := FE.bdM hF hC
      show GW κ 5 0 0 (wM r g I32945 A32945 L32945) 19 [(0, .ref (r 0)), (1, .int z1), (2, .int z2)] []
      refine g_iconst (v := 0) hk dX12_within_19 (by decide) ?_
      refine g_istore_n (lv' := [(3, .int 0), (0, .ref (r 0)), (1, .int z1), (2, .int z2)]) hk dX12_within_20 (by decide) rfl ?_
      refine g_iconst (v := 0) hk dX12_within_21 (by decide) ?_
      refine g_istore (lv' := [(4, .int 0), (3, .int 0), (0, .ref (r 0)), (1, .int z1), (2, .int z2)]) hk dX12_within_22 (by decide) rfl ?_
      have lp32996 : ∀ (n32997 : Nat) (x32946 : Int32) (x32947 : Int32), (0 ≤ x32946.toInt) → (x32946.toInt ≤ 160) → (161 - x32946.toInt < (n32997 : Int)) → (0 < n32997) → (FE (fM12_within I A L z1 z2) (itr_ii dfM (bM12_within_24 I32945 A32945 L32945 z2) n32997 x32946 x32947)) → GW κ 5 0 0 (wM r g I32945 A32945 L32945) 24 [(4, .int x32946), (3, .int x32947), (0, .ref (r 0)), (1, .int z1), (2, .int z2)] [] := by
        intro n32997
        induction n32997 with
        | zero =>
          intro x32946 x32947 h32994 h32995 m32998 m32998z hF
          exact absurd m32998z (Nat.lt_irrefl 0)
        | succ n32997 ih33000 =>
          intro x32946 x32947 h32994 h32995 m32998 m32998z hF
          replace hF := FE.itr_ii hF
          refine g_iload hk dX12_within_24 rfl ?_
          refine g_aload_n hk dX12_within_26 rfl ?_
          refine gM_i24 (v := (I32945 24)) hk hin12 (List.mem_cons_of_mem _ (List.mem_append_left _ (List.mem_of_getElem? (i := 7) rfl))) dX12_within_27 rfl ?_
          have f33001 := IvM_f24 hV32945
          refine g_icmp_ge (tgt := 58) (a := x32946.toInt) (b := (I32945 24).toInt) hk dX12_within_30 (by decide) rfl rfl (fun c33002 => ?_) (fun c33002 => ?_)
          · skip
            replace hF := FE.pos hF c33002
            refine g_iload_n hk dX12_within_58 rfl ?_
            have b33003l := Int32.le_toInt x32947
            have b33003h := Int32.toInt_lt x32947
            exact g_iret hk hR rfl ⟨I32945, A32945, L32945, (show Md [18, 19, 20, 24] I I32945 from (Md.tr Md.rf hI32945 rfl)), (show Md [18, 19, 20, 21, 24, 26] A A32945 from (Md.tr Md.rf hA32945 rfl)), hV32945, x32947, (show L32945 = L from hL32945), hF, rfl, rfl⟩ dX12_within_59
          · skip
            replace hF := FE.neg hF c33002
            refine g_aload_n hk dX12_within_33 rfl ?_
            refine gM_r0_48 hk hin12 (List.mem_cons_of_mem _ (List.mem_append_left _ (List.mem_of_getElem? (i := 8) rfl))) dX12_within_34 ?_
            refine g_aload_n hk dX12_within_37 rfl ?_
            refine gM_r0_51 hk hin12 (List.mem_cons_of_mem _ (List.mem_append_left _ (List.mem_of_getElem? (i := 9) rfl))) dX12_within_38 ?_
            refine g_iload hk dX12_within_41 rfl ?_
            refine lM_26 (v := (A32945 26 x32946.toNatClampNeg)) hk (vp_in_iff.mpr ⟨by omega, by omega⟩) rfl dX12_within_43 ?_
            have f33004 := IvM_a26 hV32945 (x32946.toNatClampNeg)
            refine lM_24 (v := (A32945 24 (A32945 26 x32946.toNatClampNeg).toNatClampNeg)) hk (vp_in_iff.mpr ⟨by omega, by omega⟩) rfl dX12_within_44 ?_
            refine g_iload_n hk dX12_within_45 rfl ?_
            have b33005l := Int32.le_toInt (A32945 24 (A32945 26 x32946.toNatClampNeg).toNatClampNeg)
            have b33005h := Int32.toInt_lt (A32945 24 (A32945 26 x32946.toNatClampNeg).toNatClampNeg)
            refine g_icmp_gt (tgt := 52) (a := (A32945 24 (A32945 26 x32946.toNatClampNeg).toNatClampNeg).toInt) (b := z2.toInt) hk dX12_within_46 (by decide) rfl rfl (fun c33006 => ?_) (fun c33006 => ?_)
            · skip
              replace hF := FE.pos hF c33006
              obtain ⟨y33007, ey33007⟩ : ∃ y : Int32, y = x32946 + Int32.ofInt 1 := ⟨_, rfl⟩
              replace hF := FE.lt hF ey33007
              have hy33007 : y33007.toInt = x32946.toInt + 1 := i32_add ey33007 rfl (by decide) (by omega) (by omega)
              refine g_iinc (v := y33007) (lv' := [(4, .int y33007), (3, .int x32947), (0, .ref (r 0)), (1, .int z1), (2, .int z2)]) hk 0 dX12_within_52 rfl ey33007.symm (by decide) rfl ?_
              refine g_goto (tgt := 24) hk dX12_within_55 (by decide) ?_
              have b33008l := Int32.le_toInt x32947
              have b33008h := Int32.toInt_lt x32947
              exact g_lv (List.forall_mem_cons.mpr ⟨List.mem_of_getElem? (i := 0) rfl, (List.forall_mem_cons.mpr ⟨List.mem_of_getElem? (i := 1) rfl, (List.forall_mem_cons.mpr ⟨List.mem_of_getElem? (i := 2) rfl, (List.forall_mem_cons.mpr ⟨List.mem_of_getElem? (i := 3) rfl, (List.forall_mem_cons.mpr ⟨List.mem_of_getElem? (i := 4) rfl, (fun _ h => absurd h List.not_mem_nil)⟩)⟩)⟩)⟩)⟩) (ih33000 y33007 x32947 (by omega) (by omega) (by omega) (by omega) hF)
            · skip
              replace hF := FE.neg hF c33006
              have b33009l := Int32.le_toInt x32947
              have b33009h := Int32.toInt_lt x32947
              obtain ⟨y33010, ey33010⟩ : ∃ y : Int32, y = x32947 + Int32.ofInt 1 := ⟨_, rfl⟩
              replace hF := FE.lt hF ey33010
              refine g_iinc (v := y33010) (lv' := [(3, .int y33010), (4, .int x32946), (0, .ref (r 0)), (1, .int z1), (2, .int z2)]) hk 1 dX12_within_49 rfl ey33010.symm (by decide) rfl ?_
              obtain ⟨y33011, ey33011⟩ : ∃ y : Int32, y = x32946 + Int32.ofInt 1 := ⟨_, rfl⟩
              replace hF := FE.lt hF ey33011
              have hy33011 : y33011.toInt = x32946.toInt + 1 := i32_add ey33011 rfl (by decide) (by omega) (by omega)
              refine g_iinc (v := y33011) (lv' := [(4, .int y33011), (3, .int y33010), (0, .ref (r 0)), (1, .int z1), (2, .int z2)]) hk 1 dX12_within_52 rfl ey33011.symm (by decide) rfl ?_
              refine g_goto (tgt := 24) hk dX12_within_55 (by decide) ?_
              have b33012l := Int32.le_toInt y33010
              have b33012h := Int32.toInt_lt y33010
              exact g_lv (List.forall_mem_cons.mpr ⟨List.mem_of_getElem? (i := 0) rfl, (List.forall_mem_cons.mpr ⟨List.mem_of_getElem? (i := 1) rfl, (List.forall_mem_cons.mpr ⟨List.mem_of_getElem? (i := 2) rfl, (List.forall_mem_cons.mpr ⟨List.mem_of_getElem? (i := 3) rfl, (List.forall_mem_cons.mpr ⟨List.mem_of_getElem? (i := 4) rfl, (fun _ h => absurd h List.not_mem_nil)⟩)⟩)⟩)⟩)⟩) (ih33000 y33011 y33010 (by omega) (by omega) (by omega) (by omega) hF)
      have k33013 : (0 : Int32).toInt = 0 := rfl
      have b33015 := Int32.le_toInt (0 : Int32)
      have b33016 := Int32.toInt_lt (0 : Int32)
      have n33014a : 161 - (0 : Int32).toInt < (FU : Int) := by have := FU_eq; omega
      have n33014b : 0 < FU := by have := FU_eq; omega
      exact lp32996 FU 0 0 (by omega) (by omega) n33014a n33014b hF
    · skip
      replace hF := FE.neg hF c32943
      refine g_iconst (v := (-1)) hk dX12_within_12 (by decide) ?_
      exact g_iret hk hR rfl ⟨I, A, L, (show Md [18, 19, 20, 24] I I from Md.rf), (show Md [18, 19, 20, 21, 24, 26] A A from Md.rf), hIv, (-1), (show L = L from rfl), hF, rfl, rfl⟩ dX12_within_13
noncomputable def bM12_fillsWay_19 : (Int32 → Int32 → (Nat → Int32) → (Nat → Nat → Int32) → (Nat → Nat → Int64) → (Int32 × (Nat → Int32) × (Nat → Nat → Int32) × (Nat → Nat → Int64))) → Int32 → Int32 → (Nat → Int32) → (Nat → Nat → Int32) → (Nat → Nat → Int64) → (Int32 × (Nat → Int32) × (Nat → Nat → Int32) × (Nat → Nat → Int64)) := fun kk33117 x33047 x33048 I33050 A33050 L33050 => if x33048.toInt < 0 then (0, I33050, A33050, L33050) else if x33047.toInt < 0 then (0, I33050, A33050, L33050) else f_lt ((100 : Int32) * x33048) fun y33122 => f_lt (y33122 + x33047) fun y33123 => f_lt ((I33050 23) + (1 : Int32)) fun y33124 => f_lt (x33048 - (1 : Int32)) fun y33125 => f_lt (x33047 - (1 : Int32)) fun y33126 => f_lt (fM12_atTable (upd I33050 23 y33124) (up3 A33050 23 ((I33050 23).toNatClampNeg) y33123) L33050 y33125 y33126) fun y33127 => f_lt (x33048 - (1 : Int32)) fun y33128 => f_lt (fM12_atTable (upd I33050 23 y33124) (up3 A33050 23 ((I33050 23).toNatClampNeg) y33123) L33050 y33128 x33047) fun y33129 => f_lt (x33047 - (1 : Int32)) fun y33130 => f_lt (fM12_atTable (upd I33050 23 y33124) (up3 A33050 23 ((I33050 23).toNatClampNeg) y33123) L33050 x33048 y33130) fun y33131 => if y33129.toInt < y33127.toInt then if y33131.toInt < y33129.toInt then f_lt (x33047 + Int32.ofInt (-1)) fun y33137 => kk33117 y33137 x33048 (upd I33050 23 y33124) (up3 A33050 23 ((I33050 23).toNatClampNeg) y33123) L33050 else f_lt (x33048 + Int32.ofInt (-1)) fun y33138 => kk33117 x33047 y33138 (upd I33050 23 y33124) (up3 A33050 23 ((I33050 23).toNatClampNeg) y33123) L33050 else if y33131.toInt < y33127.toInt then if y33131.toInt < y33129.toInt then f_lt (x33047 + Int32.ofInt (-1)) fun y33142 => kk33117 y33142 x33048 (upd I33050 23 y33124) (up3 A33050 23 ((I33050 23).toNatClampNeg) y33123) L33050 else f_lt (x33048 + Int32.ofInt (-1)) fun y33143 => kk33117 x33047 y33143 (upd I33050 23 y33124) (up3 A33050 23 ((I33050 23).toNatClampNeg) y33123) L33050 else if y33131.toInt < y33129.toInt then f_lt (x33048 + Int32.ofInt (-1)) fun y33145 => f_lt (x33047 + Int32.ofInt (-1)) fun y33146 => kk33117 y33146 y33145 (upd I33050 23 y33124) (up3 A33050 23 ((I33050 23).toNatClampNeg) y33123) L33050 else f_lt (x33048 + Int32.ofInt (-1)) fun y33147 => f_lt (x33047 + Int32.ofInt (-1)) fun y33148 => kk33117 y33148 y33147 (upd I33050 23 y33124) (up3 A33050 23 ((I33050 23).toNatClampNeg) y33123) L33050
noncomputable def fM12_fillsWay (I : Nat → Int32) (A : Nat → Nat → Int32) (L : Nat → Nat → Int64) : Int32 × (Nat → Int32) × (Nat → Nat → Int32) × (Nat → Nat → Int64) := f_lt ((I 18) - (1 : Int32)) fun y33045 => f_lt ((I 18) - (1 : Int32)) fun y33046 => itr_iiIAL dfM (bM12_fillsWay_19) FU y33046 y33045 (upd I 23 0) A L
def wo_j195_X12_fillsWay : List Cond := [Cond.fieldLink RX12 267 "WarpDeskModel" "wide" "I", Cond.fieldLink RX12 351 "WarpDeskModel" "wayMany" "I", Cond.fieldLink RX12 88 "WarpDeskModel" "wayAt" "[I", Cond.methodLink RX12 283 yX12_atTable, Cond.instanceMethod yX12_atTable, Cond.selects RX12 yX12_atTable yX12_atTable, Cond.initialized RX12]
def wz_j195_X12_fillsWay : List Cond := .code yX12_fillsWay cX12_fillsWay 8 none :: (wo_j195_X12_fillsWay ++ (wsX120 ++ (wz_j174_X12_atTable ++ ([] : List Cond))))
theorem zg_j195_X12_fillsWay : ∀ w ∈ wz_j195_X12_fillsWay, goodWord w = true := zg_cons rfl (zg_app (by decide +kernel) (zg_app zgU_wsX120 (zg_app zg_j174_X12_atTable zg_nil)))
theorem zi_j195_X12_fillsWay : ∀ w ∈ wz_j195_X12_fillsWay, w ∈ lw_tbl := zi_cons zw_1835 (zi_app (zi_cons zw_1415 (zi_cons zw_1425 (zi_cons zw_1424 (zi_cons zw_1788 (zi_cons zw_1790 (zi_cons zw_86 (zi_cons zw_115 zi_nil))))))) (zi_app inX12 (zi_app zi_j174_X12_atTable zi_nil)))
set_option maxHeartbeats 4000000 in
set_option maxRecDepth 100000 in
theorem j195_X12_fillsWay (l : Launch) (D : va_G) (zt : Nat × Nat × Nat × (Nat → Nat) × (Nat → Nat)) (r : Nat → Nat) (g : Nat → ClassId) (I : Nat → Int32) (A : Nat → Nat → Int32) (L : Nat → Nat → Int64) (hIv : IvM I A) : GM l D zt (tyM g) yX12_fillsWay wz_j195_X12_fillsWay ({ frames := 3, cells := 0, slots := 0, locals := 66 } : Room) [.ref (r 0)] (wM r g I A L) (fun v _ w' => ∃ (I' : Nat → Int32) (A' : Nat → Nat → Int32) (L' : Nat → Nat → Int64), Md [23] I I' ∧ Md [23] A A' ∧ IvM I' A' ∧ (L' = L) ∧ FE (fM12_fillsWay I A L) (0, I', A', L') ∧ v = none ∧ w' = wM r g I' A' L') 0 0 := by
  refine GM.of (cc := cX12_fillsWay) (maxL := 8) (ret := none) (own := RX12) (lv := [(0, .ref (r 0))]) (by decide) rfl rfl (Nat.le_of_ble_eq_true rfl) rfl (fun κ sz hk hR hN => ?_)
  have hin12 : ∀ w ∈ u_ws RX12 TX12 55, w ∈ wz_j195_X12_fillsWay := fun w h => (List.mem_cons_of_mem _ (List.mem_append_right _ (List.mem_append_left _ h)))
  have hF : FE (fM12_fillsWay I A L) (fM12_fillsWay I A L) := FE.rf
  refine g_aload_n hk dX12_fillsWay_0 rfl ?_
  refine gM_i18 (v := (I 18)) hk hin12 (List.mem_cons_of_mem _ (List.mem_append_left _ (List.mem_of_getElem? (i := 0) rfl))) dX12_fillsWay_1 rfl ?_
  have f33044 := IvM_f18 hIv
  refine g_iconst (v := 1) hk dX12_fillsWay_4 (by decide) ?_
  refine g_isub hk dX12_fillsWay_5 ?_
  refine g_topi (fun y33045 ey33045 => ?_)
  replace hF := FE.lt hF ey33045
  have hy33045 : y33045.toInt = (I 18).toInt - 1 := i32_sub ey33045 rfl rfl (by omega) (by omega)
  refine g_istore_n (lv' := [(1, .int y33045), (0, .ref (r 0))]) hk dX12_fillsWay_6 (by decide) rfl ?_
  refine g_aload_n hk dX12_fillsWay_7 rfl ?_
  refine gM_i18 (v := (I 18)) hk hin12 (List.mem_cons_of_mem _ (List.mem_append_left _ (List.mem_of_getElem? (i := 0) rfl))) dX12_fillsWay_8 rfl ?_
  refine g_iconst (v := 1) hk dX12_fillsWay_11 (by decide) ?_
  refine g_isub hk dX12_fillsWay_12 ?_
  refine g_topi (fun y33046 ey33046 => ?_)
  replace hF := FE.lt hF ey33046
  have hy33046 : y33046.toInt = (I 18).toInt - 1 := i32_sub ey33046 rfl rfl (by omega) (by omega)
  refine g_istore_n (lv' := [(2, .int y33046), (1, .int y33045), (0, .ref (r 0))]) hk dX12_fillsWay_13 (by decide) rfl ?_
  refine g_aload_n hk dX12_fillsWay_14 rfl ?_
  refine g_iconst (v := 0) hk dX12_fillsWay_15 (by decide) ?_
  refine pM_i23 hk hin12 (List.mem_cons_of_mem _ (List.mem_append_left _ (List.mem_of_getElem? (i := 1) rfl))) dX12_fillsWay_16 ?_
  have lp33114 : ∀ (n33115 : Nat) (x33047 : Int32) (x33048 : Int32) (I33050 : Nat → Int32) (A33050 : Nat → Nat → Int32) (L33050 : Nat → Nat → Int64), (Md [23] (upd I 23 0) I33050) → (Md [23] A A33050) → (IvM I33050 A33050) → (L33050 = L) → ((-1) ≤ x33047.toInt) → (x33047.toInt ≤ 15) → ((-1) ≤ x33048.toInt) → (x33048.toInt ≤ 15) → ((I33050 23).toInt + x33048.toInt + x33047.toInt ≤ 30) → (x33048.toInt + x33047.toInt + 3 < (n33115 : Int)) → (0 < n33115) → (FE (fM12_fillsWay I A L) (itr_iiIAL dfM (bM12_fillsWay_19) n33115 x33047 x33048 I33050 A33050 L33050)) → GW κ 8 0 0 (wM r g I33050 A33050 L33050) 19 [(2, .int x33047), (1, .int x33048), (0, .ref (r 0))] [] := by
    intro n33115
    induction n33115 with
    | zero =>
      intro x33047 x33048 I33050 A33050 L33050 hI33050 hA33050 hV33050 hL33050 h33109 h33110 h33111 h33112 h33113 m33116 m33116z hF
      exact absurd m33116z (Nat.lt_irrefl 0)
    | succ n33115 ih33118 =>
      intro x33047 x33048 I33050 A33050 L33050 hI33050 hA33050 hV33050 hL33050 h33109 h33110 h33111 h33112 h33113 m33116 m33116z hF
      have f33119 := IvM_f23 hV33050
      replace hF := FE.itr_iiIAL hF
      refine g_iload_n hk dX12_fillsWay_19 rfl ?_
      refine g_if_lt (tgt := 145) (a := x33048.toInt) hk dX12_fillsWay_20 (by decide) rfl (fun c33120 => ?_) (fun c33120 => ?_)
      · skip
        replace hF := FE.pos hF c33120
        exact g_vret hk hR ⟨I33050, A33050, L33050, (show Md [23] I I33050 from (Md.tr (Md.up Md.rf rfl) hI33050 rfl)), (show Md [23] A A33050 from (Md.tr Md.rf hA33050 rfl)), hV33050, (show L33050 = L from hL33050), hF, rfl, rfl⟩ dX12_fillsWay_145
      · skip
        replace hF := FE.neg hF c33120
        refine g_iload_n hk dX12_fillsWay_23 rfl ?_
        refine g_if_lt (tgt := 145) (a := x33047.toInt) hk dX12_fillsWay_24 (by decide) rfl (fun c33121 => ?_) (fun c33121 => ?_)
        · skip
          replace hF := FE.pos hF c33121
          exact g_vret hk hR ⟨I33050, A33050, L33050, (show Md [23] I I33050 from (Md.tr (Md.up Md.rf rfl) hI33050 rfl)), (show Md [23] A A33050 from (Md.tr Md.rf hA33050 rfl)), hV33050, (show L33050 = L from hL33050), hF, rfl, rfl⟩ dX12_fillsWay_145
        · skip
          replace hF := FE.neg hF c33121
          refine g_aload_n hk dX12_fillsWay_27 rfl ?_
          refine gM_r0_46 hk hin12 (List.mem_cons_of_mem _ (List.mem_append_left _ (List.mem_of_getElem? (i := 2) rfl))) dX12_fillsWay_28 ?_
          refine g_aload_n hk dX12_fillsWay_31 rfl ?_
          refine gM_i23 (v := (I33050 23)) hk hin12 (List.mem_cons_of_mem _ (List.mem_append_left _ (List.mem_of_getElem? (i := 1) rfl))) dX12_fillsWay_32 rfl ?_
          refine g_bipush (v := 100) hk dX12_fillsWay_35 (by decide) ?_
          refine g_iload_n hk dX12_fillsWay_37 rfl ?_
          refine g_imul hk dX12_fillsWay_38 ?_
          refine g_topi (fun y33122 ey33122 => ?_)
          replace hF := FE.lt hF ey33122
          have hy33122 : y33122.toInt = 100 * x33048.toInt := i32_mul ey33122 rfl rfl (by omega) (by omega)
          refine g_iload_n hk dX12_fillsWay_39 rfl ?_
          refine g_iadd hk dX12_fillsWay_40 ?_
          refine g_topi (fun y33123 ey33123 => ?_)
          replace hF := FE.lt hF ey33123
          have hy33123 : y33123.toInt = y33122.toInt + x33047.toInt := i32_add ey33123 rfl rfl (by omega) (by omega)
          refine sM_23 (j := (I33050 23).toNatClampNeg) hk (vp_in_iff.mpr ⟨by omega, by omega⟩) rfl dX12_fillsWay_41 ?_
          refine g_aload_n hk dX12_fillsWay_42 rfl ?_
          refine g_dup hk dX12_fillsWay_43 rfl ?_
          refine gM_i23 (v := (I33050 23)) hk hin12 (List.mem_cons_of_mem _ (List.mem_append_left _ (List.mem_of_getElem? (i := 1) rfl))) dX12_fillsWay_44 rfl ?_
          refine g_iconst (v := 1) hk dX12_fillsWay_47 (by decide) ?_
          refine g_iadd hk dX12_fillsWay_48 ?_
          refine g_topi (fun y33124 ey33124 => ?_)
          replace hF := FE.lt hF ey33124
          have hy33124 : y33124.toInt = (I33050 23).toInt + 1 := i32_add ey33124 rfl rfl (by omega) (by omega)
          refine pM_i23 hk hin12 (List.mem_cons_of_mem _ (List.mem_append_left _ (List.mem_of_getElem? (i := 1) rfl))) dX12_fillsWay_49 ?_
          refine g_aload_n hk dX12_fillsWay_52 rfl ?_
          refine g_iload_n hk dX12_fillsWay_53 rfl ?_
          refine g_iconst (v := 1) hk dX12_fillsWay_54 (by decide) ?_
          refine g_isub hk dX12_fillsWay_55 ?_
          refine g_topi (fun y33125 ey33125 => ?_)
          replace hF := FE.lt hF ey33125
          have hy33125 : y33125.toInt = x33048.toInt - 1 := i32_sub ey33125 rfl rfl (by omega) (by omega)
          refine g_iload_n hk dX12_fillsWay_56 rfl ?_
          refine g_iconst (v := 1) hk dX12_fillsWay_57 (by decide) ?_
          refine g_isub hk dX12_fillsWay_58 ?_
          refine g_topi (fun y33126 ey33126 => ?_)
          replace hF := FE.lt hF ey33126
          have hy33126 : y33126.toInt = x33047.toInt - 1 := i32_sub ey33126 rfl rfl (by omega) (by omega)
          refine g_callV (n := 2) hk (j174_X12_atTable l D zt r g (upd I33050 23 y33124) (up3 A33050 23 ((I33050 23).toNatClampNeg) y33123) L33050 y33125 y33126 ⟨(IvM_f1 (I := I33050) (A := A33050) hV33050), (IvM_f2 (I := I33050) (A := A33050) hV33050), (IvM_f3 (I := I33050) (A := A33050) hV33050), (IvM_f4 (I := I33050) (A := A33050) hV33050), (IvM_f6 (I := I33050) (A := A33050) hV33050), (IvM_f8 (I := I33050) (A := A33050) hV33050), (IvM_f15 (I := I33050) (A := A33050) hV33050), (IvM_f16 (I := I33050) (A := A33050) hV33050), (IvM_f17 (I := I33050) (A := A33050) hV33050), (IvM_f18 (I := I33050) (A := A33050) hV33050), (IvM_f22 (I := I33050) (A := A33050) hV33050), (show 0 ≤ y33124.toInt ∧ y33124.toInt ≤ 40 from ⟨by omega, by omega⟩), (IvM_f24 (I := I33050) (A := A33050) hV33050), (IvM_a11 (I := I33050) (A := A33050) hV33050), (IvM_a26 (I := I33050) (A := A33050) hV33050), (IvM_s8_0 (I := I33050) (A := A33050) hV33050), (IvM_s8_1 (I := I33050) (A := A33050) hV33050), (IvM_s10_0 (I := I33050) (A := A33050) hV33050), (IvM_s10_1 (I := I33050) (A := A33050) hV33050), (IvM_s17_0 (I := I33050) (A := A33050) hV33050), (IvM_s17_164 (I := I33050) (A := A33050) hV33050), (IvM_lv (I := I33050) (A := A33050) hV33050), (IvM_sd (I := I33050) (A := A33050) hV33050), (IvM_nq (I := I33050) (A := A33050) hV33050), (IvM_hr (I := I33050) (A := A33050) hV33050), (IvM_hh (I := I33050) (A := A33050) hV33050), trivial⟩ (by omega) (by omega) (by omega) (by omega)) (SP.same _) (fun _ h => h) (gi_V (List.mem_cons_of_mem _ (List.mem_append_left _ (List.mem_of_getElem? (i := 3) rfl))) (List.mem_cons_of_mem _ (List.mem_append_left _ (List.mem_of_getElem? (i := 4) rfl))) (List.mem_cons_of_mem _ (List.mem_append_left _ (List.mem_of_getElem? (i := 5) rfl))) (List.mem_cons_of_mem _ (List.mem_append_left _ (List.mem_of_getElem? (i := 6) rfl))) (gi_sub (fun w h => (List.mem_cons_of_mem _ (List.mem_append_right _ (List.mem_append_right _ (List.mem_append_left _ h))))) zg_j174_X12_atTable)) rfl rfl rfl (by decide +kernel) ⟨Nat.le_of_ble_eq_true rfl, Nat.le_of_ble_eq_true rfl⟩ 0 rfl rfl rfl rfl (Nat.le_of_ble_eq_true rfl) ⟨Nat.le_of_ble_eq_true rfl, Nat.le_of_ble_eq_true rfl⟩ dX12_fillsWay_59 (fun v ty' w' hp hk' => ?_)
          obtain ⟨y33127, hC, rfl, rfl⟩ := hp
          replace hF := FE.lt hF (fe_s hC)
          show GW κ 8 0 0 (wM r g (upd I33050 23 y33124) (up3 A33050 23 ((I33050 23).toNatClampNeg) y33123) L33050) 62 [(2, .int x33047), (1, .int x33048), (0, .ref (r 0))] [.int y33127]
          refine g_istore_n (lv' := [(3, .int y33127), (2, .int x33047), (1, .int x33048), (0, .ref (r 0))]) hk dX12_fillsWay_62 (by decide) rfl ?_
          refine g_aload_n hk dX12_fillsWay_63 rfl ?_
          refine g_iload_n hk dX12_fillsWay_64 rfl ?_
          refine g_iconst (v := 1) hk dX12_fillsWay_65 (by decide) ?_
          refine g_isub hk dX12_fillsWay_66 ?_
          refine g_topi (fun y33128 ey33128 => ?_)
          replace hF := FE.lt hF ey33128
          have hy33128 : y33128.toInt = x33048.toInt - 1 := i32_sub ey33128 rfl rfl (by omega) (by omega)
          refine g_iload_n hk dX12_fillsWay_67 rfl ?_
          refine g_callV (n := 2) hk (j174_X12_atTable l D zt r g (upd I33050 23 y33124) (up3 A33050 23 ((I33050 23).toNatClampNeg) y33123) L33050 y33128 x33047 ⟨(IvM_f1 (I := I33050) (A := A33050) hV33050), (IvM_f2 (I := I33050) (A := A33050) hV33050), (IvM_f3 (I := I33050) (A := A33050) hV33050), (IvM_f4 (I := I33050) (A := A33050) hV33050), (IvM_f6 (I := I33050) (A := A33050) hV33050), (IvM_f8 (I := I33050) (A := A33050) hV33050), (IvM_f15 (I := I33050) (A := A33050) hV33050), (IvM_f16 (I := I33050) (A := A33050) hV33050), (IvM_f17 (I := I33050) (A := A33050) hV33050), (IvM_f18 (I := I33050) (A := A33050) hV33050), (IvM_f22 (I := I33050) (A := A33050) hV33050), (show 0 ≤ y33124.toInt ∧ y33124.toInt ≤ 40 from ⟨by omega, by omega⟩), (IvM_f24 (I := I33050) (A := A33050) hV33050), (IvM_a11 (I := I33050) (A := A33050) hV33050), (IvM_a26 (I := I33050) (A := A33050) hV33050), (IvM_s8_0 (I := I33050) (A := A33050) hV33050), (IvM_s8_1 (I := I33050) (A := A33050) hV33050), (IvM_s10_0 (I := I33050) (A := A33050) hV33050), (IvM_s10_1 (I := I33050) (A := A33050) hV33050), (IvM_s17_0 (I := I33050) (A := A33050) hV33050), (IvM_s17_164 (I := I33050) (A := A33050) hV33050), (IvM_lv (I := I33050) (A := A33050) hV33050), (IvM_sd (I := I33050) (A := A33050) hV33050), (IvM_nq (I := I33050) (A := A33050) hV33050), (IvM_hr (I := I33050) (A := A33050) hV33050), (IvM_hh (I := I33050) (A := A33050) hV33050), trivial⟩ (by omega) (by omega) (by omega) (by omega)) (SP.same _) (fun _ h => h) (gi_V (List.mem_cons_of_mem _ (List.mem_append_left _ (List.mem_of_getElem? (i := 3) rfl))) (List.mem_cons_of_mem _ (List.mem_append_left _ (List.mem_of_getElem? (i := 4) rfl))) (List.mem_cons_of_mem _ (List.mem_append_left _ (List.mem_of_getElem? (i := 5) rfl))) (List.mem_cons_of_mem _ (List.mem_append_left _ (List.mem_of_getElem? (i := 6) rfl))) (gi_sub (fun w h => (List.mem_cons_of_mem _ (List.mem_append_right _ (List.mem_append_right _ (List.mem_append_left _ h))))) zg_j174_X12_atTable)) rfl rfl rfl (by decide +kernel) ⟨Nat.le_of_ble_eq_true rfl, Nat.le_of_ble_eq_true rfl⟩ 0 rfl rfl rfl rfl (Nat.le_of_ble_eq_true rfl) ⟨Nat.le_of_ble_eq_true rfl, Nat.le_of_ble_eq_true rfl⟩ dX12_fillsWay_68 (fun v ty' w' hp hk' => ?_)
          obtain ⟨y33129, hC, rfl, rfl⟩ := hp
          replace hF := FE.lt hF (fe_s hC)
          show GW κ 8 0 0 (wM r g (upd I33050 23 y33124) (up3 A33050 23 ((I33050 23).toNatClampNeg) y33123) L33050) 71 [(3, .int y33127), (2, .int x33047), (1, .int x33048), (0, .ref (r 0))] [.int y33129]
          refine g_istore (lv' := [(4, .int y33129), (3, .int y33127), (2, .int x33047), (1, .int x33048), (0, .ref (r 0))]) hk dX12_fillsWay_71 (by decide) rfl ?_
          refine g_aload_n hk dX12_fillsWay_73 rfl ?_
          refine g_iload_n hk dX12_fillsWay_74 rfl ?_
          refine g_iload_n hk dX12_fillsWay_75 rfl ?_
          refine g_iconst (v := 1) hk dX12_fillsWay_76 (by decide) ?_
          refine g_isub hk dX12_fillsWay_77 ?_
          refine g_topi (fun y33130 ey33130 => ?_)
          replace hF := FE.lt hF ey33130
          have hy33130 : y33130.toInt = x33047.toInt - 1 := i32_sub ey33130 rfl rfl (by omega) (by omega)
          refine g_callV (n := 2) hk (j174_X12_atTable l D zt r g (upd I33050 23 y33124) (up3 A33050 23 ((I33050 23).toNatClampNeg) y33123) L33050 x33048 y33130 ⟨(IvM_f1 (I := I33050) (A := A33050) hV33050), (IvM_f2 (I := I33050) (A := A33050) hV33050), (IvM_f3 (I := I33050) (A := A33050) hV33050), (IvM_f4 (I := I33050) (A := A33050) hV33050), (IvM_f6 (I := I33050) (A := A33050) hV33050), (IvM_f8 (I := I33050) (A := A33050) hV33050), (IvM_f15 (I := I33050) (A := A33050) hV33050), (IvM_f16 (I := I33050) (A := A33050) hV33050), (IvM_f17 (I := I33050) (A := A33050) hV33050), (IvM_f18 (I := I33050) (A := A33050) hV33050), (IvM_f22 (I := I33050) (A := A33050) hV33050), (show 0 ≤ y33124.toInt ∧ y33124.toInt ≤ 40 from ⟨by omega, by omega⟩), (IvM_f24 (I := I33050) (A := A33050) hV33050), (IvM_a11 (I := I33050) (A := A33050) hV33050), (IvM_a26 (I := I33050) (A := A33050) hV33050), (IvM_s8_0 (I := I33050) (A := A33050) hV33050), (IvM_s8_1 (I := I33050) (A := A33050) hV33050), (IvM_s10_0 (I := I33050) (A := A33050) hV33050), (IvM_s10_1 (I := I33050) (A := A33050) hV33050), (IvM_s17_0 (I := I33050) (A := A33050) hV33050), (IvM_s17_164 (I := I33050) (A := A33050) hV33050), (IvM_lv (I := I33050) (A := A33050) hV33050), (IvM_sd (I := I33050) (A := A33050) hV33050), (IvM_nq (I := I33050) (A := A33050) hV33050), (IvM_hr (I := I33050) (A := A33050) hV33050), (IvM_hh (I := I33050) (A := A33050) hV33050), trivial⟩ (by omega) (by omega) (by omega) (by omega)) (SP.same _) (fun _ h => h) (gi_V (List.mem_cons_of_mem _ (List.mem_append_left _ (List.mem_of_getElem? (i := 3) rfl))) (List.mem_cons_of_mem _ (List.mem_append_left _ (List.mem_of_getElem? (i := 4) rfl))) (List.mem_cons_of_mem _ (List.mem_append_left _ (List.mem_of_getElem? (i := 5) rfl))) (List.mem_cons_of_mem _ (List.mem_append_left _ (List.mem_of_getElem? (i := 6) rfl))) (gi_sub (fun w h => (List.mem_cons_of_mem _ (List.mem_append_right _ (List.mem_append_right _ (List.mem_append_left _ h))))) zg_j174_X12_atTable)) rfl rfl rfl (by decide +kernel) ⟨Nat.le_of_ble_eq_true rfl, Nat.le_of_ble_eq_true rfl⟩ 0 rfl rfl rfl rfl (Nat.le_of_ble_eq_true rfl) ⟨Nat.le_of_ble_eq_true rfl, Nat.le_of_ble_eq_true rfl⟩ dX12_fillsWay_78 (fun v ty' w' hp hk' => ?_)
          obtain ⟨y33131, hC, rfl, rfl⟩ := hp
          replace hF := FE.lt hF (fe_s hC)
          show GW κ 8 0 0 (wM r g (upd I33050 23 y33124) (up3 A33050 23 ((I33050 23).toNatClampNeg) y33123) L33050) 81 [(4, .int y33129), (3, .int y33127), (2, .int x33047), (1, .int x33048), (0, .ref (r 0))] [.int y33131]
          refine g_istore (lv' := [(5, .int y33131), (4, .int y33129), (3, .int y33127), (2, .int x33047), (1, .int x33048), (0, .ref (r 0))]) hk dX12_fillsWay_81 (by decide) rfl ?_
          refine g_iload_n hk dX12_fillsWay_83 rfl ?_
          refine g_iload hk dX12_fillsWay_84 rfl ?_
          have b33132l := Int32.le_toInt y33127
          have b33132h := Int32.toInt_lt y33127
          have b33133l := Int32.le_toInt y33129
          have b33133h := Int32.toInt_lt y33129
          refine g_icmp_gt (tgt := 99) (a := y33127.toInt) (b := y33129.toInt) hk dX12_fillsWay_86 (by decide) rfl rfl (fun c33134 => ?_) (fun c33134 => ?_)
          · skip
            replace hF := FE.pos hF c33134
            refine g_iconst (v := 0) hk dX12_fillsWay_99 (by decide) ?_
            refine g_istore (lv' := [(6, .int 0), (5, .int y33131), (4, .int y33129), (3, .int y33127), (2, .int x33047), (1, .int x33048), (0, .ref (r 0))]) hk dX12_fillsWay_100 (by decide) rfl ?_
            refine g_iload hk dX12_fillsWay_102 rfl ?_
            refine g_iload hk dX12_fillsWay_104 rfl ?_
            have b33135l := Int32.le_toInt y33131
            have b33135h := Int32.toInt_lt y33131
            refine g_icmp_gt (tgt := 113) (a := y33129.toInt) (b := y33131.toInt) hk dX12_fillsWay_106 (by decide) rfl rfl (fun c33136 => ?_) (fun c33136 => ?_)
            · skip
              replace hF := FE.pos hF c33136
              refine g_iconst (v := 0) hk dX12_fillsWay_113 (by decide) ?_
              refine g_istore (lv' := [(7, .int 0), (6, .int 0), (5, .int y33131), (4, .int y33129), (3, .int y33127), (2, .int x33047), (1, .int x33048), (0, .ref (r 0))]) hk dX12_fillsWay_114 (by decide) rfl ?_
              refine g_iload hk dX12_fillsWay_116 rfl ?_
              refine g_if_ne (tgt := 126) (a := 0) hk dX12_fillsWay_118 (by decide) rfl (fun z9 => absurd z9 (show ¬ ((0 : Int) ≠ (0 : Int)) from by decide)) (fun _ => ?_)
              refine g_iload hk dX12_fillsWay_121 rfl ?_
              refine g_if_eq (tgt := 129) (a := 0) hk dX12_fillsWay_123 (by decide) rfl (fun _ => ?_) (fun z9 => absurd (show (0 : Int) = (0 : Int) from by decide) z9)
              refine g_iload hk dX12_fillsWay_129 rfl ?_
              refine g_if_ne (tgt := 139) (a := 0) hk dX12_fillsWay_131 (by decide) rfl (fun z9 => absurd z9 (show ¬ ((0 : Int) ≠ (0 : Int)) from by decide)) (fun _ => ?_)
              refine g_iload hk dX12_fillsWay_134 rfl ?_
              refine g_if_ne (tgt := 142) (a := 0) hk dX12_fillsWay_136 (by decide) rfl (fun z9 => absurd z9 (show ¬ ((0 : Int) ≠ (0 : Int)) from by decide)) (fun _ => ?_)
              obtain ⟨y33137, ey33137⟩ : ∃ y : Int32, y = x33047 + Int32.ofInt (-1) := ⟨_, rfl⟩
              replace hF := FE.lt hF ey33137
              have hy33137 : y33137.toInt = x33047.toInt + (-1) := i32_add ey33137 rfl (by decide) (by omega) (by omega)
              refine g_iinc (v := y33137) (lv' := [(2, .int y33137), (7, .int 0), (6, .int 0), (5, .int y33131), (4, .int y33129), (3, .int y33127), (1, .int x33048), (0, .ref (r 0))]) hk 5 dX12_fillsWay_139 rfl ey33137.symm (by decide) rfl ?_
              refine g_goto (tgt := 19) hk dX12_fillsWay_142 (by decide) ?_
              exact g_lv (List.forall_mem_cons.mpr ⟨List.mem_of_getElem? (i := 0) rfl, (List.forall_mem_cons.mpr ⟨List.mem_of_getElem? (i := 6) rfl, (List.forall_mem_cons.mpr ⟨List.mem_of_getElem? (i := 7) rfl, (fun _ h => absurd h List.not_mem_nil)⟩)⟩)⟩) (ih33118 y33137 x33048 (upd I33050 23 y33124) (up3 A33050 23 ((I33050 23).toNatClampNeg) y33123) L33050 (show Md [23] (upd I 23 0) (upd I33050 23 y33124) from Md.tr hI33050 (show Md [23] I33050 (upd I33050 23 y33124) from (Md.up Md.rf rfl)) rfl) (show Md [23] A (up3 A33050 23 ((I33050 23).toNatClampNeg) y33123) from Md.tr hA33050 (show Md [23] A33050 (up3 A33050 23 ((I33050 23).toNatClampNeg) y33123) from (Md.up3 Md.rf rfl)) rfl) ⟨(IvM_f1 (I := I33050) (A := A33050) hV33050), (IvM_f2 (I := I33050) (A := A33050) hV33050), (IvM_f3 (I := I33050) (A := A33050) hV33050), (IvM_f4 (I := I33050) (A := A33050) hV33050), (IvM_f6 (I := I33050) (A := A33050) hV33050), (IvM_f8 (I := I33050) (A := A33050) hV33050), (IvM_f15 (I := I33050) (A := A33050) hV33050), (IvM_f16 (I := I33050) (A := A33050) hV33050), (IvM_f17 (I := I33050) (A := A33050) hV33050), (IvM_f18 (I := I33050) (A := A33050) hV33050), (IvM_f22 (I := I33050) (A := A33050) hV33050), (show 0 ≤ y33124.toInt ∧ y33124.toInt ≤ 40 from ⟨by omega, by omega⟩), (IvM_f24 (I := I33050) (A := A33050) hV33050), (IvM_a11 (I := I33050) (A := A33050) hV33050), (IvM_a26 (I := I33050) (A := A33050) hV33050), (IvM_s8_0 (I := I33050) (A := A33050) hV33050), (IvM_s8_1 (I := I33050) (A := A33050) hV33050), (IvM_s10_0 (I := I33050) (A := A33050) hV33050), (IvM_s10_1 (I := I33050) (A := A33050) hV33050), (IvM_s17_0 (I := I33050) (A := A33050) hV33050), (IvM_s17_164 (I := I33050) (A := A33050) hV33050), (IvM_lv (I := I33050) (A := A33050) hV33050), (IvM_sd (I := I33050) (A := A33050) hV33050), (IvM_nq (I := I33050) (A := A33050) hV33050), (IvM_hr (I := I33050) (A := A33050) hV33050), (IvM_hh (I := I33050) (A := A33050) hV33050), trivial⟩ (show L33050 = L from hL33050) (by omega) (by omega) (by omega) (by omega) (by first | (rw [show ((upd I33050 23 y33124) 23) = y33124 from rfl] <;> omega) | omega) (by omega) (by omega) hF)
            · skip
              replace hF := FE.neg hF c33136
              refine g_iconst (v := 1) hk dX12_fillsWay_109 (by decide) ?_
              refine g_goto (tgt := 114) hk dX12_fillsWay_110 (by decide) ?_
              refine g_istore (lv' := [(7, .int 1), (6, .int 0), (5, .int y33131), (4, .int y33129), (3, .int y33127), (2, .int x33047), (1, .int x33048), (0, .ref (r 0))]) hk dX12_fillsWay_114 (by decide) rfl ?_
              refine g_iload hk dX12_fillsWay_116 rfl ?_
              refine g_if_ne (tgt := 126) (a := 0) hk dX12_fillsWay_118 (by decide) rfl (fun z9 => absurd z9 (show ¬ ((0 : Int) ≠ (0 : Int)) from by decide)) (fun _ => ?_)
              refine g_iload hk dX12_fillsWay_121 rfl ?_
              refine g_if_eq (tgt := 129) (a := 1) hk dX12_fillsWay_123 (by decide) rfl (fun z9 => absurd z9 (show ¬ ((1 : Int) = (0 : Int)) from by decide)) (fun _ => ?_)
              obtain ⟨y33138, ey33138⟩ : ∃ y : Int32, y = x33048 + Int32.ofInt (-1) := ⟨_, rfl⟩
              replace hF := FE.lt hF ey33138
              have hy33138 : y33138.toInt = x33048.toInt + (-1) := i32_add ey33138 rfl (by decide) (by omega) (by omega)
              refine g_iinc (v := y33138) (lv' := [(1, .int y33138), (7, .int 1), (6, .int 0), (5, .int y33131), (4, .int y33129), (3, .int y33127), (2, .int x33047), (0, .ref (r 0))]) hk 6 dX12_fillsWay_126 rfl ey33138.symm (by decide) rfl ?_
              refine g_iload hk dX12_fillsWay_129 rfl ?_
              refine g_if_ne (tgt := 139) (a := 0) hk dX12_fillsWay_131 (by decide) rfl (fun z9 => absurd z9 (show ¬ ((0 : Int) ≠ (0 : Int)) from by decide)) (fun _ => ?_)
              refine g_iload hk dX12_fillsWay_134 rfl ?_
              refine g_if_ne (tgt := 142) (a := 1) hk dX12_fillsWay_136 (by decide) rfl (fun _ => ?_) (fun z9 => absurd (show (1 : Int) ≠ (0 : Int) from by decide) z9)
              refine g_goto (tgt := 19) hk dX12_fillsWay_142 (by decide) ?_
              exact g_lv (List.forall_mem_cons.mpr ⟨List.mem_of_getElem? (i := 6) rfl, (List.forall_mem_cons.mpr ⟨List.mem_of_getElem? (i := 0) rfl, (List.forall_mem_cons.mpr ⟨List.mem_of_getElem? (i := 7) rfl, (fun _ h => absurd h List.not_mem_nil)⟩)⟩)⟩) (ih33118 x33047 y33138 (upd I33050 23 y33124) (up3 A33050 23 ((I33050 23).toNatClampNeg) y33123) L33050 (show Md [23] (upd I 23 0) (upd I33050 23 y33124) from Md.tr hI33050 (show Md [23] I33050 (upd I33050 23 y33124) from (Md.up Md.rf rfl)) rfl) (show Md [23] A (up3 A33050 23 ((I33050 23).toNatClampNeg) y33123) from Md.tr hA33050 (show Md [23] A33050 (up3 A33050 23 ((I33050 23).toNatClampNeg) y33123) from (Md.up3 Md.rf rfl)) rfl) ⟨(IvM_f1 (I := I33050) (A := A33050) hV33050), (IvM_f2 (I := I33050) (A := A33050) hV33050), (IvM_f3 (I := I33050) (A := A33050) hV33050), (IvM_f4 (I := I33050) (A := A33050) hV33050), (IvM_f6 (I := I33050) (A := A33050) hV33050), (IvM_f8 (I := I33050) (A := A33050) hV33050), (IvM_f15 (I := I33050) (A := A33050) hV33050), (IvM_f16 (I := I33050) (A := A33050) hV33050), (IvM_f17 (I := I33050) (A := A33050) hV33050), (IvM_f18 (I := I33050) (A := A33050) hV33050), (IvM_f22 (I := I33050) (A := A33050) hV33050), (show 0 ≤ y33124.toInt ∧ y33124.toInt ≤ 40 from ⟨by omega, by omega⟩), (IvM_f24 (I := I33050) (A := A33050) hV33050), (IvM_a11 (I := I33050) (A := A33050) hV33050), (IvM_a26 (I := I33050) (A := A33050) hV33050), (IvM_s8_0 (I := I33050) (A := A33050) hV33050), (IvM_s8_1 (I := I33050) (A := A33050) hV33050), (IvM_s10_0 (I := I33050) (A := A33050) hV33050), (IvM_s10_1 (I := I33050) (A := A33050) hV33050), (IvM_s17_0 (I := I33050) (A := A33050) hV33050), (IvM_s17_164 (I := I33050) (A := A33050) hV33050), (IvM_lv (I := I33050) (A := A33050) hV33050), (IvM_sd (I := I33050) (A := A33050) hV33050), (IvM_nq (I := I33050) (A := A33050) hV33050), (IvM_hr (I := I33050) (A := A33050) hV33050), (IvM_hh (I := I33050) (A := A33050) hV33050), trivial⟩ (show L33050 = L from hL33050) (by omega) (by omega) (by omega) (by omega) (by first | (rw [show ((upd I33050 23 y33124) 23) = y33124 from rfl] <;> omega) | omega) (by omega) (by omega) hF)
          · skip
            replace hF := FE.neg hF c33134
            refine g_iload_n hk dX12_fillsWay_89 rfl ?_
            refine g_iload hk dX12_fillsWay_90 rfl ?_
            have b33139l := Int32.le_toInt y33131
            have b33139h := Int32.toInt_lt y33131
            refine g_icmp_gt (tgt := 99) (a := y33127.toInt) (b := y33131.toInt) hk dX12_fillsWay_92 (by decide) rfl rfl (fun c33140 => ?_) (fun c33140 => ?_)
            · skip
              replace hF := FE.pos hF c33140
              refine g_iconst (v := 0) hk dX12_fillsWay_99 (by decide) ?_
              refine g_istore (lv' := [(6, .int 0), (5, .int y33131), (4, .int y33129), (3, .int y33127), (2, .int x33047), (1, .int x33048), (0, .ref (r 0))]) hk dX12_fillsWay_100 (by decide) rfl ?_
              refine g_iload hk dX12_fillsWay_102 rfl ?_
              refine g_iload hk dX12_fillsWay_104 rfl ?_
              refine g_icmp_gt (tgt := 113) (a := y33129.toInt) (b := y33131.toInt) hk dX12_fillsWay_106 (by decide) rfl rfl (fun c33141 => ?_) (fun c33141 => ?_)
              · skip
                replace hF := FE.pos hF c33141
                refine g_iconst (v := 0) hk dX12_fillsWay_113 (by decide) ?_
                refine g_istore (lv' := [(7, .int 0), (6, .int 0), (5, .int y33131), (4, .int y33129), (3, .int y33127), (2, .int x33047), (1, .int x33048), (0, .ref (r 0))]) hk dX12_fillsWay_114 (by decide) rfl ?_
                refine g_iload hk dX12_fillsWay_116 rfl ?_
                refine g_if_ne (tgt := 126) (a := 0) hk dX12_fillsWay_118 (by decide) rfl (fun z9 => absurd z9 (show ¬ ((0 : Int) ≠ (0 : Int)) from by decide)) (fun _ => ?_)
                refine g_iload hk dX12_fillsWay_121 rfl ?_
                refine g_if_eq (tgt := 129) (a := 0) hk dX12_fillsWay_123 (by decide) rfl (fun _ => ?_) (fun z9 => absurd (show (0 : Int) = (0 : Int) from by decide) z9)
                refine g_iload hk dX12_fillsWay_129 rfl ?_
                refine g_if_ne (tgt := 139) (a := 0) hk dX12_fillsWay_131 (by decide) rfl (fun z9 => absurd z9 (show ¬ ((0 : Int) ≠ (0 : Int)) from by decide)) (fun _ => ?_)
                refine g_iload hk dX12_fillsWay_134 rfl ?_
                refine g_if_ne (tgt := 142) (a := 0) hk dX12_fillsWay_136 (by decide) rfl (fun z9 => absurd z9 (show ¬ ((0 : Int) ≠ (0 : Int)) from by decide)) (fun _ => ?_)
                obtain ⟨y33142, ey33142⟩ : ∃ y : Int32, y = x33047 + Int32.ofInt (-1) := ⟨_, rfl⟩
                replace hF := FE.lt hF ey33142
                have hy33142 : y33142.toInt = x33047.toInt + (-1) := i32_add ey33142 rfl (by decide) (by omega) (by omega)
                refine g_iinc (v := y33142) (lv' := [(2, .int y33142), (7, .int 0), (6, .int 0), (5, .int y33131), (4, .int y33129), (3, .int y33127), (1, .int x33048), (0, .ref (r 0))]) hk 5 dX12_fillsWay_139 rfl ey33142.symm (by decide) rfl ?_
                refine g_goto (tgt := 19) hk dX12_fillsWay_142 (by decide) ?_
                exact g_lv (List.forall_mem_cons.mpr ⟨List.mem_of_getElem? (i := 0) rfl, (List.forall_mem_cons.mpr ⟨List.mem_of_getElem? (i := 6) rfl, (List.forall_mem_cons.mpr ⟨List.mem_of_getElem? (i := 7) rfl, (fun _ h => absurd h List.not_mem_nil)⟩)⟩)⟩) (ih33118 y33142 x33048 (upd I33050 23 y33124) (up3 A33050 23 ((I33050 23).toNatClampNeg) y33123) L33050 (show Md [23] (upd I 23 0) (upd I33050 23 y33124) from Md.tr hI33050 (show Md [23] I33050 (upd I33050 23 y33124) from (Md.up Md.rf rfl)) rfl) (show Md [23] A (up3 A33050 23 ((I33050 23).toNatClampNeg) y33123) from Md.tr hA33050 (show Md [23] A33050 (up3 A33050 23 ((I33050 23).toNatClampNeg) y33123) from (Md.up3 Md.rf rfl)) rfl) ⟨(IvM_f1 (I := I33050) (A := A33050) hV33050), (IvM_f2 (I := I33050) (A := A33050) hV33050), (IvM_f3 (I := I33050) (A := A33050) hV33050), (IvM_f4 (I := I33050) (A := A33050) hV33050), (IvM_f6 (I := I33050) (A := A33050) hV33050), (IvM_f8 (I := I33050) (A := A33050) hV33050), (IvM_f15 (I := I33050) (A := A33050) hV33050), (IvM_f16 (I := I33050) (A := A33050) hV33050), (IvM_f17 (I := I33050) (A := A33050) hV33050), (IvM_f18 (I := I33050) (A := A33050) hV33050), (IvM_f22 (I := I33050) (A := A33050) hV33050), (show 0 ≤ y33124.toInt ∧ y33124.toInt ≤ 40 from ⟨by omega, by omega⟩), (IvM_f24 (I := I33050) (A := A33050) hV33050), (IvM_a11 (I := I33050) (A := A33050) hV33050), (IvM_a26 (I := I33050) (A := A33050) hV33050), (IvM_s8_0 (I := I33050) (A := A33050) hV33050), (IvM_s8_1 (I := I33050) (A := A33050) hV33050), (IvM_s10_0 (I := I33050) (A := A33050) hV33050), (IvM_s10_1 (I := I33050) (A := A33050) hV33050), (IvM_s17_0 (I := I33050) (A := A33050) hV33050), (IvM_s17_164 (I := I33050) (A := A33050) hV33050), (IvM_lv (I := I33050) (A := A33050) hV33050), (IvM_sd (I := I33050) (A := A33050) hV33050), (IvM_nq (I := I33050) (A := A33050) hV33050), (IvM_hr (I := I33050) (A := A33050) hV33050), (IvM_hh (I := I33050) (A := A33050) hV33050), trivial⟩ (show L33050 = L from hL33050) (by omega) (by omega) (by omega) (by omega) (by first | (rw [show ((upd I33050 23 y33124) 23) = y33124 from rfl] <;> omega) | omega) (by omega) (by omega) hF)
              · skip
                replace hF := FE.neg hF c33141
                refine g_iconst (v := 1) hk dX12_fillsWay_109 (by decide) ?_
                refine g_goto (tgt := 114) hk dX12_fillsWay_110 (by decide) ?_
                refine g_istore (lv' := [(7, .int 1), (6, .int 0), (5, .int y33131), (4, .int y33129), (3, .int y33127), (2, .int x33047), (1, .int x33048), (0, .ref (r 0))]) hk dX12_fillsWay_114 (by decide) rfl ?_
                refine g_iload hk dX12_fillsWay_116 rfl ?_
                refine g_if_ne (tgt := 126) (a := 0) hk dX12_fillsWay_118 (by decide) rfl (fun z9 => absurd z9 (show ¬ ((0 : Int) ≠ (0 : Int)) from by decide)) (fun _ => ?_)
                refine g_iload hk dX12_fillsWay_121 rfl ?_
                refine g_if_eq (tgt := 129) (a := 1) hk dX12_fillsWay_123 (by decide) rfl (fun z9 => absurd z9 (show ¬ ((1 : Int) = (0 : Int)) from by decide)) (fun _ => ?_)
                obtain ⟨y33143, ey33143⟩ : ∃ y : Int32, y = x33048 + Int32.ofInt (-1) := ⟨_, rfl⟩
                replace hF := FE.lt hF ey33143
                have hy33143 : y33143.toInt = x33048.toInt + (-1) := i32_add ey33143 rfl (by decide) (by omega) (by omega)
                refine g_iinc (v := y33143) (lv' := [(1, .int y33143), (7, .int 1), (6, .int 0), (5, .int y33131), (4, .int y33129), (3, .int y33127), (2, .int x33047), (0, .ref (r 0))]) hk 6 dX12_fillsWay_126 rfl ey33143.symm (by decide) rfl ?_
                refine g_iload hk dX12_fillsWay_129 rfl ?_
                refine g_if_ne (tgt := 139) (a := 0) hk dX12_fillsWay_131 (by decide) rfl (fun z9 => absurd z9 (show ¬ ((0 : Int) ≠ (0 : Int)) from by decide)) (fun _ => ?_)
                refine g_iload hk dX12_fillsWay_134 rfl ?_
                refine g_if_ne (tgt := 142) (a := 1) hk dX12_fillsWay_136 (by decide) rfl (fun _ => ?_) (fun z9 => absurd (show (1 : Int) ≠ (0 : Int) from by decide) z9)
                refine g_goto (tgt := 19) hk dX12_fillsWay_142 (by decide) ?_
                exact g_lv (List.forall_mem_cons.mpr ⟨List.mem_of_getElem? (i := 6) rfl, (List.forall_mem_cons.mpr ⟨List.mem_of_getElem? (i := 0) rfl, (List.forall_mem_cons.mpr ⟨List.mem_of_getElem? (i := 7) rfl, (fun _ h => absurd h List.not_mem_nil)⟩)⟩)⟩) (ih33118 x33047 y33143 (upd I33050 23 y33124) (up3 A33050 23 ((I33050 23).toNatClampNeg) y33123) L33050 (show Md [23] (upd I 23 0) (upd I33050 23 y33124) from Md.tr hI33050 (show Md [23] I33050 (upd I33050 23 y33124) from (Md.up Md.rf rfl)) rfl) (show Md [23] A (up3 A33050 23 ((I33050 23).toNatClampNeg) y33123) from Md.tr hA33050 (show Md [23] A33050 (up3 A33050 23 ((I33050 23).toNatClampNeg) y33123) from (Md.up3 Md.rf rfl)) rfl) ⟨(IvM_f1 (I := I33050) (A := A33050) hV33050), (IvM_f2 (I := I33050) (A := A33050) hV33050), (IvM_f3 (I := I33050) (A := A33050) hV33050), (IvM_f4 (I := I33050) (A := A33050) hV33050), (IvM_f6 (I := I33050) (A := A33050) hV33050), (IvM_f8 (I := I33050) (A := A33050) hV33050), (IvM_f15 (I := I33050) (A := A33050) hV33050), (IvM_f16 (I := I33050) (A := A33050) hV33050), (IvM_f17 (I := I33050) (A := A33050) hV33050), (IvM_f18 (I := I33050) (A := A33050) hV33050), (IvM_f22 (I := I33050) (A := A33050) hV33050), (show 0 ≤ y33124.toInt ∧ y33124.toInt ≤ 40 from ⟨by omega, by omega⟩), (IvM_f24 (I := I33050) (A := A33050) hV33050), (IvM_a11 (I := I33050) (A := A33050) hV33050), (IvM_a26 (I := I33050) (A := A33050) hV33050), (IvM_s8_0 (I := I33050) (A := A33050) hV33050), (IvM_s8_1 (I := I33050) (A := A33050) hV33050), (IvM_s10_0 (I := I33050) (A := A33050) hV33050), (IvM_s10_1 (I := I33050) (A := A33050) hV33050), (IvM_s17_0 (I := I33050) (A := A33050) hV33050), (IvM_s17_164 (I := I33050) (A := A33050) hV33050), (IvM_lv (I := I33050) (A := A33050) hV33050), (IvM_sd (I := I33050) (A := A33050) hV33050), (IvM_nq (I := I33050) (A := A33050) hV33050), (IvM_hr (I := I33050) (A := A33050) hV33050), (IvM_hh (I := I33050) (A := A33050) hV33050), trivial⟩ (show L33050 = L from hL33050) (by omega) (by omega) (by omega) (by omega) (by first | (rw [show ((upd I33050 23 y33124) 23) = y33124 from rfl] <;> omega) | omega) (by omega) (by omega) hF)
            · skip
              replace hF := FE.neg hF c33140
              refine g_iconst (v := 1) hk dX12_fillsWay_95 (by decide) ?_
              refine g_goto (tgt := 100) hk dX12_fillsWay_96 (by decide) ?_
              refine g_istore (lv' := [(6, .int 1), (5, .int y33131), (4, .int y33129), (3, .int y33127), (2, .int x33047), (1, .int x33048), (0, .ref (r 0))]) hk dX12_fillsWay_100 (by decide) rfl ?_
              refine g_iload hk dX12_fillsWay_102 rfl ?_
              refine g_iload hk dX12_fillsWay_104 rfl ?_
              refine g_icmp_gt (tgt := 113) (a := y33129.toInt) (b := y33131.toInt) hk dX12_fillsWay_106 (by decide) rfl rfl (fun c33144 => ?_) (fun c33144 => ?_)
              · skip
                replace hF := FE.pos hF c33144
                refine g_iconst (v := 0) hk dX12_fillsWay_113 (by decide) ?_
                refine g_istore (lv' := [(7, .int 0), (6, .int 1), (5, .int y33131), (4, .int y33129), (3, .int y33127), (2, .int x33047), (1, .int x33048), (0, .ref (r 0))]) hk dX12_fillsWay_114 (by decide) rfl ?_
                refine g_iload hk dX12_fillsWay_116 rfl ?_
                refine g_if_ne (tgt := 126) (a := 1) hk dX12_fillsWay_118 (by decide) rfl (fun _ => ?_) (fun z9 => absurd (show (1 : Int) ≠ (0 : Int) from by decide) z9)
                obtain ⟨y33145, ey33145⟩ : ∃ y : Int32, y = x33048 + Int32.ofInt (-1) := ⟨_, rfl⟩
                replace hF := FE.lt hF ey33145
                have hy33145 : y33145.toInt = x33048.toInt + (-1) := i32_add ey33145 rfl (by decide) (by omega) (by omega)
                refine g_iinc (v := y33145) (lv' := [(1, .int y33145), (7, .int 0), (6, .int 1), (5, .int y33131), (4, .int y33129), (3, .int y33127), (2, .int x33047), (0, .ref (r 0))]) hk 6 dX12_fillsWay_126 rfl ey33145.symm (by decide) rfl ?_
                refine g_iload hk dX12_fillsWay_129 rfl ?_
                refine g_if_ne (tgt := 139) (a := 1) hk dX12_fillsWay_131 (by decide) rfl (fun _ => ?_) (fun z9 => absurd (show (1 : Int) ≠ (0 : Int) from by decide) z9)
                obtain ⟨y33146, ey33146⟩ : ∃ y : Int32, y = x33047 + Int32.ofInt (-1) := ⟨_, rfl⟩
                replace hF := FE.lt hF ey33146
                have hy33146 : y33146.toInt = x33047.toInt + (-1) := i32_add ey33146 rfl (by decide) (by omega) (by omega)
                refine g_iinc (v := y33146) (lv' := [(2, .int y33146), (1, .int y33145), (7, .int 0), (6, .int 1), (5, .int y33131), (4, .int y33129), (3, .int y33127), (0, .ref (r 0))]) hk 6 dX12_fillsWay_139 rfl ey33146.symm (by decide) rfl ?_
                refine g_goto (tgt := 19) hk dX12_fillsWay_142 (by decide) ?_
                exact g_lv (List.forall_mem_cons.mpr ⟨List.mem_of_getElem? (i := 0) rfl, (List.forall_mem_cons.mpr ⟨List.mem_of_getElem? (i := 1) rfl, (List.forall_mem_cons.mpr ⟨List.mem_of_getElem? (i := 7) rfl, (fun _ h => absurd h List.not_mem_nil)⟩)⟩)⟩) (ih33118 y33146 y33145 (upd I33050 23 y33124) (up3 A33050 23 ((I33050 23).toNatClampNeg) y33123) L33050 (show Md [23] (upd I 23 0) (upd I33050 23 y33124) from Md.tr hI33050 (show Md [23] I33050 (upd I33050 23 y33124) from (Md.up Md.rf rfl)) rfl) (show Md [23] A (up3 A33050 23 ((I33050 23).toNatClampNeg) y33123) from Md.tr hA33050 (show Md [23] A33050 (up3 A33050 23 ((I33050 23).toNatClampNeg) y33123) from (Md.up3 Md.rf rfl)) rfl) ⟨(IvM_f1 (I := I33050) (A := A33050) hV33050), (IvM_f2 (I := I33050) (A := A33050) hV33050), (IvM_f3 (I := I33050) (A := A33050) hV33050), (IvM_f4 (I := I33050) (A := A33050) hV33050), (IvM_f6 (I := I33050) (A := A33050) hV33050), (IvM_f8 (I := I33050) (A := A33050) hV33050), (IvM_f15 (I := I33050) (A := A33050) hV33050), (IvM_f16 (I := I33050) (A := A33050) hV33050), (IvM_f17 (I := I33050) (A := A33050) hV33050), (IvM_f18 (I := I33050) (A := A33050) hV33050), (IvM_f22 (I := I33050) (A := A33050) hV33050), (show 0 ≤ y33124.toInt ∧ y33124.toInt ≤ 40 from ⟨by omega, by omega⟩), (IvM_f24 (I := I33050) (A := A33050) hV33050), (IvM_a11 (I := I33050) (A := A33050) hV33050), (IvM_a26 (I := I33050) (A := A33050) hV33050), (IvM_s8_0 (I := I33050) (A := A33050) hV33050), (IvM_s8_1 (I := I33050) (A := A33050) hV33050), (IvM_s10_0 (I := I33050) (A := A33050) hV33050), (IvM_s10_1 (I := I33050) (A := A33050) hV33050), (IvM_s17_0 (I := I33050) (A := A33050) hV33050), (IvM_s17_164 (I := I33050) (A := A33050) hV33050), (IvM_lv (I := I33050) (A := A33050) hV33050), (IvM_sd (I := I33050) (A := A33050) hV33050), (IvM_nq (I := I33050) (A := A33050) hV33050), (IvM_hr (I := I33050) (A := A33050) hV33050), (IvM_hh (I := I33050) (A := A33050) hV33050), trivial⟩ (show L33050 = L from hL33050) (by omega) (by omega) (by omega) (by omega) (by first | (rw [show ((upd I33050 23 y33124) 23) = y33124 from rfl] <;> omega) | omega) (by omega) (by omega) hF)
              · skip
                replace hF := FE.neg hF c33144
                refine g_iconst (v := 1) hk dX12_fillsWay_109 (by decide) ?_
                refine g_goto (tgt := 114) hk dX12_fillsWay_110 (by decide) ?_
                refine g_istore (lv' := [(7, .int 1), (6, .int 1), (5, .int y33131), (4, .int y33129), (3, .int y33127), (2, .int x33047), (1, .int x33048), (0, .ref (r 0))]) hk dX12_fillsWay_114 (by decide) rfl ?_
                refine g_iload hk dX12_fillsWay_116 rfl ?_
                refine g_if_ne (tgt := 126) (a := 1) hk dX12_fillsWay_118 (by decide) rfl (fun _ => ?_) (fun z9 => absurd (show (1 : Int) ≠ (0 : Int) from by decide) z9)
                obtain ⟨y33147, ey33147⟩ : ∃ y : Int32, y = x33048 + Int32.ofInt (-1) := ⟨_, rfl⟩
                replace hF := FE.lt hF ey33147
                have hy33147 : y33147.toInt = x33048.toInt + (-1) := i32_add ey33147 rfl (by decide) (by omega) (by omega)
                refine g_iinc (v := y33147) (lv' := [(1, .int y33147), (7, .int 1), (6, .int 1), (5, .int y33131), (4, .int y33129), (3, .int y33127), (2, .int x33047), (0, .ref (r 0))]) hk 6 dX12_fillsWay_126 rfl ey33147.symm (by decide) rfl ?_
                refine g_iload hk dX12_fillsWay_129 rfl ?_
                refine g_if_ne (tgt := 139) (a := 1) hk dX12_fillsWay_131 (by decide) rfl (fun _ => ?_) (fun z9 => absurd (show (1 : Int) ≠ (0 : Int) from by decide) z9)
                obtain ⟨y33148, ey33148⟩ : ∃ y : Int32, y = x33047 + Int32.ofInt (-1) := ⟨_, rfl⟩
                replace hF := FE.lt hF ey33148
                have hy33148 : y33148.toInt = x33047.toInt + (-1) := i32_add ey33148 rfl (by decide) (by omega) (by omega)
                refine g_iinc (v := y33148) (lv' := [(2, .int y33148), (1, .int y33147), (7, .int 1), (6, .int 1), (5, .int y33131), (4, .int y33129), (3, .int y33127), (0, .ref (r 0))]) hk 6 dX12_fillsWay_139 rfl ey33148.symm (by decide) rfl ?_
                refine g_goto (tgt := 19) hk dX12_fillsWay_142 (by decide) ?_
                exact g_lv (List.forall_mem_cons.mpr ⟨List.mem_of_getElem? (i := 0) rfl, (List.forall_mem_cons.mpr ⟨List.mem_of_getElem? (i := 1) rfl, (List.forall_mem_cons.mpr ⟨List.mem_of_getElem? (i := 7) rfl, (fun _ h => absurd h List.not_mem_nil)⟩)⟩)⟩) (ih33118 y33148 y33147 (upd I33050 23 y33124) (up3 A33050 23 ((I33050 23).toNatClampNeg) y33123) L33050 (show Md [23] (upd I 23 0) (upd I33050 23 y33124) from Md.tr hI33050 (show Md [23] I33050 (upd I33050 23 y33124) from (Md.up Md.rf rfl)) rfl) (show Md [23] A (up3 A33050 23 ((I33050 23).toNatClampNeg) y33123) from Md.tr hA33050 (show Md [23] A33050 (up3 A33050 23 ((I33050 23).toNatClampNeg) y33123) from (Md.up3 Md.rf rfl)) rfl) ⟨(IvM_f1 (I := I33050) (A := A33050) hV33050), (IvM_f2 (I := I33050) (A := A33050) hV33050), (IvM_f3 (I := I33050) (A := A33050) hV33050), (IvM_f4 (I := I33050) (A := A33050) hV33050), (IvM_f6 (I := I33050) (A := A33050) hV33050), (IvM_f8 (I := I33050) (A := A33050) hV33050), (IvM_f15 (I := I33050) (A := A33050) hV33050), (IvM_f16 (I := I33050) (A := A33050) hV33050), (IvM_f17 (I := I33050) (A := A33050) hV33050), (IvM_f18 (I := I33050) (A := A33050) hV33050), (IvM_f22 (I := I33050) (A := A33050) hV33050), (show 0 ≤ y33124.toInt ∧ y33124.toInt ≤ 40 from ⟨by omega, by omega⟩), (IvM_f24 (I := I33050) (A := A33050) hV33050), (IvM_a11 (I := I33050) (A := A33050) hV33050), (IvM_a26 (I := I33050) (A := A33050) hV33050), (IvM_s8_0 (I := I33050) (A := A33050) hV33050), (IvM_s8_1 (I := I33050) (A := A33050) hV33050), (IvM_s10_0 (I := I33050) (A := A33050) hV33050), (IvM_s10_1 (I := I33050) (A := A33050) hV33050), (IvM_s17_0 (I := I33050) (A := A33050) hV33050), (IvM_s17_164 (I := I33050) (A := A33050) hV33050), (IvM_lv (I := I33050) (A := A33050) hV33050), (IvM_sd (I := I33050) (A := A33050) hV33050), (IvM_nq (I := I33050) (A := A33050) hV33050), (IvM_hr (I := I33050) (A := A33050) hV33050), (IvM_hh (I := I33050) (A := A33050) hV33050), trivial⟩ (show L33050 = L from hL33050) (by omega) (by omega) (by omega) (by omega) (by first | (rw [show ((upd I33050 23 y33124) 23) = y33124 from rfl] <;> omega) | omega) (by omega) (by omega) hF)
  have b33150 := Int32.le_toInt y33045
  have b33151 := Int32.toInt_lt y33045
  have b33152 := Int32.le_toInt y33046
  have b33153 := Int32.toInt_lt y33046
  have n33149a : y33045.toInt + y33046.toInt + 3 < (FU : Int) := by have := FU_eq; omega
  have n33149b : 0 < FU := by have := FU_eq; omega
  have k33154 : (0 : Int32).toInt = 0 := rfl
  exact lp33114 FU y33046 y33045 (upd I 23 0) A L Md.rf Md.rf ⟨(IvM_f1 (I := I) (A := A) hIv), (IvM_f2 (I := I) (A := A) hIv), (IvM_f3 (I := I) (A := A) hIv), (IvM_f4 (I := I) (A := A) hIv), (IvM_f6 (I := I) (A := A) hIv), (IvM_f8 (I := I) (A := A) hIv), (IvM_f15 (I := I) (A := A) hIv), (IvM_f16 (I := I) (A := A) hIv), (IvM_f17 (I := I) (A := A) hIv), (IvM_f18 (I := I) (A := A) hIv), (IvM_f22 (I := I) (A := A) hIv), (show 0 ≤ (0 : Int32).toInt ∧ (0 : Int32).toInt ≤ 40 from ⟨by decide, by decide⟩), (IvM_f24 (I := I) (A := A) hIv), (IvM_a11 (I := I) (A := A) hIv), (IvM_a26 (I := I) (A := A) hIv), (IvM_s8_0 (I := I) (A := A) hIv), (IvM_s8_1 (I := I) (A := A) hIv), (IvM_s10_0 (I := I) (A := A) hIv), (IvM_s10_1 (I := I) (A := A) hIv), (IvM_s17_0 (I := I) (A := A) hIv), (IvM_s17_164 (I := I) (A := A) hIv), (IvM_lv (I := I) (A := A) hIv), (IvM_sd (I := I) (A := A) hIv), (IvM_nq (I := I) (A := A) hIv), (IvM_hr (I := I) (A := A) hIv), (IvM_hh (I := I) (A := A) hIv), trivial⟩ rfl (by omega) (by omega) (by omega) (by omega) (by first | (rw [show ((upd I 23 0) 23) = (0 : Int32) from rfl] <;> omega) | omega) n33149a n33149b hF
noncomputable def fM12_way (I : Nat → Int32) (A : Nat → Nat → Int32) (L : Nat → Nat → Int64) (z1 : Int32) (z2 : Int32) (z3 : Int32) : Int32 × (Nat → Int32) × (Nat → Nat → Int32) × (Nat → Nat → Int64) := if fM12_isOf I A L z1 z2 = 0 then ((-1), I, A, L) else if (-1) ≤ z3.toInt then f_bdM (fM12_copies I A L) fun _ I33035 A33035 L33035 => f_bdM (fM12_distanceOf I33035 A33035 L33035 z1 z2) fun y33040 I33041 A33041 L33041 => f_bdM (fM12_fillsWay I33041 A33041 L33041) fun _ I33156 A33156 L33156 => if z3.toInt ≠ (-1) then if (I33156 23).toInt ≤ z3.toInt then ((-1), I33156, A33156, L33156) else f_lt ((I33156 23) - (1 : Int32)) fun y33160 => f_lt (y33160 - z3) fun y33161 => ((A33156 23 y33161.toNatClampNeg), I33156, A33156, L33156) else ((I33156 23), I33156, A33156, L33156) else ((-1), I, A, L)
def wo_j194_X12_way : List Cond := [Cond.methodLink RX12 342 yX12_isOf, Cond.instanceMethod yX12_isOf, Cond.selects RX12 yX12_isOf yX12_isOf, Cond.initialized RX12, Cond.methodLink RX12 323 yX12_copies, Cond.instanceMethod yX12_copies, Cond.selects RX12 yX12_copies yX12_copies, Cond.methodLink RX12 345 yX12_distanceOf, Cond.instanceMethod yX12_distanceOf, Cond.selects RX12 yX12_distanceOf yX12_distanceOf, Cond.methodLink RX12 354 yX12_fillsWay, Cond.instanceMethod yX12_fillsWay, Cond.selects RX12 yX12_fillsWay yX12_fillsWay, Cond.fieldLink RX12 351 "WarpDeskModel" "wayMany" "I", Cond.fieldLink RX12 88 "WarpDeskModel" "wayAt" "[I"]
def wz_j194_X12_way : List Cond := .code yX12_way cX12_way 4 (some .int) :: (wo_j194_X12_way ++ (wsX120 ++ (wz_j168_X12_isOf ++ (wz_j151_X12_copies ++ (wz_j169_X12_distanceOf ++ (wz_j195_X12_fillsWay ++ ([] : List Cond)))))))
theorem zg_j194_X12_way : ∀ w ∈ wz_j194_X12_way, goodWord w = true := zg_cons rfl (zg_app (by decide +kernel) (zg_app zgU_wsX120 (zg_app zg_j168_X12_isOf (zg_app zg_j151_X12_copies (zg_app zg_j169_X12_distanceOf (zg_app zg_j195_X12_fillsWay zg_nil))))))
theorem zi_j194_X12_way : ∀ w ∈ wz_j194_X12_way, w ∈ lw_tbl := zi_cons zw_1831 (zi_app (zi_cons zw_1755 (zi_cons zw_1757 (zi_cons zw_78 (zi_cons zw_115 (zi_cons zw_1679 (zi_cons zw_1681 (zi_cons zw_70 (zi_cons zw_1759 (zi_cons zw_1761 (zi_cons zw_79 (zi_cons zw_1832 (zi_cons zw_1834 (zi_cons zw_92 (zi_cons zw_1425 (zi_cons zw_1424 zi_nil))))))))))))))) (zi_app inX12 (zi_app zi_j168_X12_isOf (zi_app zi_j151_X12_copies (zi_app zi_j169_X12_distanceOf (zi_app zi_j195_X12_fillsWay zi_nil))))))
set_option maxHeartbeats 4000000 in
set_option maxRecDepth 100000 in
theorem j194_X12_way (l : Launch) (D : va_G) (zt : Nat × Nat × Nat × (Nat → Nat) × (Nat → Nat)) (r : Nat → Nat) (g : Nat → ClassId) (I : Nat → Int32) (A : Nat → Nat → Int32) (L : Nat → Nat → Int64) (z1 : Int32) (z2 : Int32) (z3 : Int32) (hIv : IvM I A) : GM l D zt (tyM g) yX12_way wz_j194_X12_way ({ frames := 6, cells := 0, slots := 0, locals := 134 } : Room) [.ref (r 0), .int z1, .int z2, .int z3] (wM r g I A L) (fun v _ w' => ∃ (I' : Nat → Int32) (A' : Nat → Nat → Int32) (L' : Nat → Nat → Int64), Md [18, 19, 20, 23] I I' ∧ Md [18, 19, 20, 21, 23] A A' ∧ IvM I' A' ∧ ∃ y0 : Int32, (L' = L) ∧ FE (fM12_way I A L z1 z2 z3) (y0, I', A', L') ∧ v = some (.int y0) ∧ w' = wM r g I' A' L') 0 0 := by
  refine GM.of (cc := cX12_way) (maxL := 4) (ret := (some .int)) (own := RX12) (lv := [(0, .ref (r 0)), (1, .int z1), (2, .int z2), (3, .int z3)]) (by decide) rfl rfl (Nat.le_of_ble_eq_true rfl) rfl (fun κ sz hk hR hN => ?_)
  have hin12 : ∀ w ∈ u_ws RX12 TX12 55, w ∈ wz_j194_X12_way := fun w h => (List.mem_cons_of_mem _ (List.mem_append_right _ (List.mem_append_left _ h)))
  have hF : FE (fM12_way I A L z1 z2 z3) (fM12_way I A L z1 z2 z3) := FE.rf
  refine g_aload_n hk dX12_way_0 rfl ?_
  refine g_iload_n hk dX12_way_1 rfl ?_
  refine g_iload_n hk dX12_way_2 rfl ?_
  refine g_callV (n := 2) hk (j168_X12_isOf l D zt r g I A L z1 z2 hIv) (SP.same _) (fun _ h => h) (gi_V (List.mem_cons_of_mem _ (List.mem_append_left _ (List.mem_of_getElem? (i := 0) rfl))) (List.mem_cons_of_mem _ (List.mem_append_left _ (List.mem_of_getElem? (i := 1) rfl))) (List.mem_cons_of_mem _ (List.mem_append_left _ (List.mem_of_getElem? (i := 2) rfl))) (List.mem_cons_of_mem _ (List.mem_append_left _ (List.mem_of_getElem? (i := 3) rfl))) (gi_sub (fun w h => (List.mem_cons_of_mem _ (List.mem_append_right _ (List.mem_append_right _ (List.mem_append_left _ h))))) zg_j168_X12_isOf)) rfl rfl rfl (by decide +kernel) ⟨Nat.le_of_ble_eq_true rfl, Nat.le_of_ble_eq_true rfl⟩ 0 rfl rfl rfl rfl (Nat.le_of_ble_eq_true rfl) ⟨Nat.le_of_ble_eq_true rfl, Nat.le_of_ble_eq_true rfl⟩ dX12_way_3 (fun v ty' w' hp hk' => ?_)
  rcases hp with ⟨hC, rfl, rfl⟩ | ⟨c33018, c33019, c33020, c33021, c33022, c33023, c33024, c33025, c33026, c33027, c33028, c33029, hC, rfl, rfl⟩
  · skip
    replace hF := FE.pos hF hC
    show GW κ 4 0 0 (wM r g I A L) 6 [(0, .ref (r 0)), (1, .int z1), (2, .int z2), (3, .int z3)] [.int 0]
    refine g_if_eq (tgt := 14) (a := 0) hk dX12_way_6 (by decide) rfl (fun _ => ?_) (fun z9 => absurd (show (0 : Int) = (0 : Int) from by decide) z9)
    refine g_iconst (v := (-1)) hk dX12_way_14 (by decide) ?_
    exact g_iret hk hR rfl ⟨I, A, L, (show Md [18, 19, 20, 23] I I from Md.rf), (show Md [18, 19, 20, 21, 23] A A from Md.rf), hIv, (-1), (show L = L from rfl), hF, rfl, rfl⟩ dX12_way_15
  · skip
    replace hF := FE.neg hF (fe_ne hC (by decide))
    have f33031 : 0 ≤ (A 11 (5 * (I 15) + z1).toNatClampNeg).toInt ∧ (A 11 (5 * (I 15) + z1).toNatClampNeg).toInt ≤ 16 := IvM_a11 hIv _
    show GW κ 4 0 0 (wM r g I A L) 6 [(0, .ref (r 0)), (1, .int z1), (2, .int z2), (3, .int z3)] [.int 1]
    refine g_if_eq (tgt := 14) (a := 1) hk dX12_way_6 (by decide) rfl (fun z9 => absurd z9 (show ¬ ((1 : Int) = (0 : Int)) from by decide)) (fun _ => ?_)
    refine g_iload_n hk dX12_way_9 rfl ?_
    refine g_iconst (v := (-1)) hk dX12_way_10 (by decide) ?_
    have b33032l := Int32.le_toInt z3
    have b33032h := Int32.toInt_lt z3
    refine g_icmp_ge (tgt := 16) (a := z3.toInt) (b := (-1)) hk dX12_way_11 (by decide) rfl rfl (fun c33033 => ?_) (fun c33033 => ?_)
    · skip
      replace hF := FE.pos hF c33033
      refine g_aload_n hk dX12_way_16 rfl ?_
      refine g_callV (n := 0) hk (j151_X12_copies l D zt r g I A L  hIv) (SP.same _) (fun _ h => h) (gi_V (List.mem_cons_of_mem _ (List.mem_append_left _ (List.mem_of_getElem? (i := 4) rfl))) (List.mem_cons_of_mem _ (List.mem_append_left _ (List.mem_of_getElem? (i := 5) rfl))) (List.mem_cons_of_mem _ (List.mem_append_left _ (List.mem_of_getElem? (i := 6) rfl))) (List.mem_cons_of_mem _ (List.mem_append_left _ (List.mem_of_getElem? (i := 3) rfl))) (gi_sub (fun w h => (List.mem_cons_of_mem _ (List.mem_append_right _ (List.mem_append_right _ (List.mem_append_right _ (List.mem_append_left _ h)))))) zg_j151_X12_copies)) rfl rfl rfl (by decide +kernel) ⟨Nat.le_of_ble_eq_true rfl, Nat.le_of_ble_eq_true rfl⟩ 0 rfl rfl rfl rfl (Nat.le_of_ble_eq_true rfl) ⟨Nat.le_of_ble_eq_true rfl, Nat.le_of_ble_eq_true rfl⟩ dX12_way_17 (fun v ty' w' hp hk' => ?_)
      obtain ⟨I33035, A33035, L33035, hI33035, hA33035, hV33035, r33036, r33037, hL33035, hC, rfl, rfl⟩ := hp
      replace hF := FE.bdM hF hC
      have f33038 := IvM_s17_0 hIv
      have f33039 := IvM_s17_164 hIv
      show GW κ 4 0 0 (wM r g I33035 A33035 L33035) 20 [(0, .ref (r 0)), (1, .int z1), (2, .int z2), (3, .int z3)] []
      refine g_aload_n hk dX12_way_20 rfl ?_
      refine g_iload_n hk dX12_way_21 rfl ?_
      refine g_iload_n hk dX12_way_22 rfl ?_
      refine g_callV (n := 2) hk (j169_X12_distanceOf l D zt r g I33035 A33035 L33035 z1 z2 hV33035 (by omega) (by omega) (by omega) (by omega) (by first | (rw [show (A33035 11 (5 * (I33035 15) + z1).toNatClampNeg) = (A 11 (5 * (I 15) + z1).toNatClampNeg) from (by rw [show I33035 15 = (I 15) from (hI33035 15 rfl)]; exact (congrFun (hA33035 11 rfl) _))] <;> omega) | omega) (by first | (rw [show (A33035 11 (5 * (I33035 15) + z1).toNatClampNeg) = (A 11 (5 * (I 15) + z1).toNatClampNeg) from (by rw [show I33035 15 = (I 15) from (hI33035 15 rfl)]; exact (congrFun (hA33035 11 rfl) _))] <;> omega) | omega)) (SP.same _) (fun _ h => h) (gi_V (List.mem_cons_of_mem _ (List.mem_append_left _ (List.mem_of_getElem? (i := 7) rfl))) (List.mem_cons_of_mem _ (List.mem_append_left _ (List.mem_of_getElem? (i := 8) rfl))) (List.mem_cons_of_mem _ (List.mem_append_left _ (List.mem_of_getElem? (i := 9) rfl))) (List.mem_cons_of_mem _ (List.mem_append_left _ (List.mem_of_getElem? (i := 3) rfl))) (gi_sub (fun w h => (List.mem_cons_of_mem _ (List.mem_append_right _ (List.mem_append_right _ (List.mem_append_right _ (List.mem_append_right _ (List.mem_append_left _ h))))))) zg_j169_X12_distanceOf)) rfl rfl rfl (by decide +kernel) ⟨Nat.le_of_ble_eq_true rfl, Nat.le_of_ble_eq_true rfl⟩ 0 rfl rfl rfl rfl (Nat.le_of_ble_eq_true rfl) ⟨Nat.le_of_ble_eq_true rfl, Nat.le_of_ble_eq_true rfl⟩ dX12_way_23 (fun v ty' w' hp hk' => ?_)
      obtain ⟨I33041, A33041, L33041, hI33041, hA33041, hV33041, y33040, r33042, hL33041, hC, rfl, rfl⟩ := hp
      replace hF := FE.bdM hF hC
      have f33043 := IvM_f18 hV33041
      show GW κ 4 0 0 (wM r g I33041 A33041 L33041) 26 [(0, .ref (r 0)), (1, .int z1), (2, .int z2), (3, .int z3)] [.int y33040]
      refine g_pop hk dX12_way_26 rfl ?_
      refine g_aload_n hk dX12_way_27 rfl ?_
      refine g_callV (n := 0) hk (j195_X12_fillsWay l D zt r g I33041 A33041 L33041  hV33041) (SP.same _) (fun _ h => h) (gi_V (List.mem_cons_of_mem _ (List.mem_append_left _ (List.mem_of_getElem? (i := 10) rfl))) (List.mem_cons_of_mem _ (List.mem_append_left _ (List.mem_of_getElem? (i := 11) rfl))) (List.mem_cons_of_mem _ (List.mem_append_left _ (List.mem_of_getElem? (i := 12) rfl))) (List.mem_cons_of_mem _ (List.mem_append_left _ (List.mem_of_getElem? (i := 3) rfl))) (gi_sub (fun w h => (List.mem_cons_of_mem _ (List.mem_append_right _ (List.mem_append_right _ (List.mem_append_right _ (List.mem_append_right _ (List.mem_append_right _ (List.mem_append_left _ h)))))))) zg_j195_X12_fillsWay)) rfl rfl rfl (by decide +kernel) ⟨Nat.le_of_ble_eq_true rfl, Nat.le_of_ble_eq_true rfl⟩ 0 rfl rfl rfl rfl (Nat.le_of_ble_eq_true rfl) ⟨Nat.le_of_ble_eq_true rfl, Nat.le_of_ble_eq_true rfl⟩ dX12_way_28 (fun v ty' w' hp hk' => ?_)
      obtain ⟨I33156, A33156, L33156, hI33156, hA33156, hV33156, hL33156, hC, rfl, rfl⟩ := hp
      replace hF := FE.bdM hF hC
      show GW κ 4 0 0 (wM r g I33156 A33156 L33156) 31 [(0, .ref (r 0)), (1, .int z1), (2, .int z2), (3, .int z3)] []
      refine g_iload_n hk dX12_way_31 rfl ?_
      refine g_iconst (v := (-1)) hk dX12_way_32 (by decide) ?_
      refine g_icmp_ne (tgt := 43) (a := z3.toInt) (b := (-1)) hk dX12_way_33 (by decide) rfl rfl (fun c33157 => ?_) (fun c33157 => ?_)
      · skip
        replace hF := FE.pos hF c33157
        refine g_iload_n hk dX12_way_43 rfl ?_
        refine g_aload_n hk dX12_way_44 rfl ?_
        refine gM_i23 (v := (I33156 23)) hk hin12 (List.mem_cons_of_mem _ (List.mem_append_left _ (List.mem_of_getElem? (i := 13) rfl))) dX12_way_45 rfl ?_
        have f33158 := IvM_f23 hV33156
        refine g_icmp_ge (tgt := 67) (a := z3.toInt) (b := (I33156 23).toInt) hk dX12_way_48 (by decide) rfl rfl (fun c33159 => ?_) (fun c33159 => ?_)
        · skip
          replace hF := FE.pos hF c33159
          refine g_iconst (v := (-1)) hk dX12_way_67 (by decide) ?_
          exact g_iret hk hR rfl ⟨I33156, A33156, L33156, (show Md [18, 19, 20, 23] I I33156 from (Md.tr (Md.tr (Md.tr Md.rf hI33035 rfl) hI33041 rfl) hI33156 rfl)), (show Md [18, 19, 20, 21, 23] A A33156 from (Md.tr (Md.tr (Md.tr Md.rf hA33035 rfl) hA33041 rfl) hA33156 rfl)), hV33156, (-1), (show L33156 = L from (hL33156.trans (hL33041.trans hL33035))), hF, rfl, rfl⟩ dX12_way_68
        · skip
          replace hF := FE.neg hF c33159
          refine g_aload_n hk dX12_way_51 rfl ?_
          refine gM_r0_46 hk hin12 (List.mem_cons_of_mem _ (List.mem_append_left _ (List.mem_of_getElem? (i := 14) rfl))) dX12_way_52 ?_
          refine g_aload_n hk dX12_way_55 rfl ?_
          refine gM_i23 (v := (I33156 23)) hk hin12 (List.mem_cons_of_mem _ (List.mem_append_left _ (List.mem_of_getElem? (i := 13) rfl))) dX12_way_56 rfl ?_
          refine g_iconst (v := 1) hk dX12_way_59 (by decide) ?_
          refine g_isub hk dX12_way_60 ?_
          refine g_topi (fun y33160 ey33160 => ?_)
          replace hF := FE.lt hF ey33160
          have hy33160 : y33160.toInt = (I33156 23).toInt - 1 := i32_sub ey33160 rfl rfl (by omega) (by omega)
          refine g_iload_n hk dX12_way_61 rfl ?_
          refine g_isub hk dX12_way_62 ?_
          refine g_topi (fun y33161 ey33161 => ?_)
          replace hF := FE.lt hF ey33161
          have hy33161 : y33161.toInt = y33160.toInt - z3.toInt := i32_sub ey33161 rfl rfl (by omega) (by omega)
          refine lM_23 (v := (A33156 23 y33161.toNatClampNeg)) hk (vp_in_iff.mpr ⟨by omega, by omega⟩) rfl dX12_way_63 ?_
          refine g_goto (tgt := 68) hk dX12_way_64 (by decide) ?_
          have b33162l := Int32.le_toInt (A33156 23 y33161.toNatClampNeg)
          have b33162h := Int32.toInt_lt (A33156 23 y33161.toNatClampNeg)
          exact g_iret hk hR rfl ⟨I33156, A33156, L33156, (show Md [18, 19, 20, 23] I I33156 from (Md.tr (Md.tr (Md.tr Md.rf hI33035 rfl) hI33041 rfl) hI33156 rfl)), (show Md [18, 19, 20, 21, 23] A A33156 from (Md.tr (Md.tr (Md.tr Md.rf hA33035 rfl) hA33041 rfl) hA33156 rfl)), hV33156, (A33156 23 y33161.toNatClampNeg), (show L33156 = L from (hL33156.trans (hL33041.trans hL33035))), hF, rfl, rfl⟩ dX12_way_68
      · skip
        replace hF := FE.neg hF c33157
        refine g_aload_n hk dX12_way_36 rfl ?_
        refine gM_i23 (v := (I33156 23)) hk hin12 (List.mem_cons_of_mem _ (List.mem_append_left _ (List.mem_of_getElem? (i := 13) rfl))) dX12_way_37 rfl ?_
        have f33163 := IvM_f23 hV33156
        refine g_goto (tgt := 68) hk dX12_way_40 (by decide) ?_
        exact g_iret hk hR rfl ⟨I33156, A33156, L33156, (show Md [18, 19, 20, 23] I I33156 from (Md.tr (Md.tr (Md.tr Md.rf hI33035 rfl) hI33041 rfl) hI33156 rfl)), (show Md [18, 19, 20, 21, 23] A A33156 from (Md.tr (Md.tr (Md.tr Md.rf hA33035 rfl) hA33041 rfl) hA33156 rfl)), hV33156, (I33156 23), (show L33156 = L from (hL33156.trans (hL33041.trans hL33035))), hF, rfl, rfl⟩ dX12_way_68
    · skip
      replace hF := FE.neg hF c33033
      refine g_iconst (v := (-1)) hk dX12_way_14 (by decide) ?_
      exact g_iret hk hR rfl ⟨I, A, L, (show Md [18, 19, 20, 23] I I from Md.rf), (show Md [18, 19, 20, 21, 23] A A from Md.rf), hIv, (-1), (show L = L from rfl), hF, rfl, rfl⟩ dX12_way_15
noncomputable def bM12_needs_28 (A : Nat → Nat → Int32) (z1 : Int32) (z2 : Int32) : (Int32 → Int32 → (Nat → Int32) → (Nat → Nat → Int32) → (Nat → Nat → Int64) → (Int32 × (Nat → Int32) × (Nat → Nat → Int32) × (Nat → Nat → Int64))) → Int32 → Int32 → (Nat → Int32) → (Nat → Nat → Int32) → (Nat → Nat → Int64) → (Int32 × (Nat → Int32) × (Nat → Nat → Int32) × (Nat → Nat → Int64)) := fun kk33243 x33179 x33180 I33185 A33185 L33185 => if x33179.toInt < 0 then (x33180, I33185, (up3 A33185 17 161 (A 17 161)), L33185) else f_bdM (fM12_fillsFar I33185 (up3 A33185 17 161 x33179) L33185 z1) fun _ I33251 A33251 L33251 => f_lt (fM12_bestWindow I33251 A33251 L33251) fun y33253 => if y33253.toInt ≠ z2.toInt then f_lt (x33179 + Int32.ofInt (-1)) fun y33257 => kk33243 y33257 x33180 I33251 A33251 L33251 else f_lt (x33179 + Int32.ofInt (-1)) fun y33258 => kk33243 y33258 x33179 I33251 A33251 L33251
noncomputable def fM12_needs (I : Nat → Int32) (A : Nat → Nat → Int32) (L : Nat → Nat → Int64) (z1 : Int32) (z2 : Int32) : Int32 × (Nat → Int32) × (Nat → Nat → Int32) × (Nat → Nat → Int64) := if fM12_isOf I A L z1 z2 = 0 then ((-1), I, A, L) else itr_iiIAL dfM (bM12_needs_28 A z1 z2) FU 15 (-2) I A L
def wo_j196_X12_needs : List Cond := [Cond.methodLink RX12 342 yX12_isOf, Cond.instanceMethod yX12_isOf, Cond.selects RX12 yX12_isOf yX12_isOf, Cond.initialized RX12, Cond.fieldLink RX12 70 "WarpDeskModel" "now" "[I", Cond.methodLink RX12 357 yX12_fillsFar, Cond.instanceMethod yX12_fillsFar, Cond.selects RX12 yX12_fillsFar yX12_fillsFar, Cond.methodLink RX12 360 yX12_bestWindow, Cond.instanceMethod yX12_bestWindow, Cond.selects RX12 yX12_bestWindow yX12_bestWindow]
def wz_j196_X12_needs : List Cond := .code yX12_needs cX12_needs 6 (some .int) :: (wo_j196_X12_needs ++ (wsX120 ++ (wz_j168_X12_isOf ++ (wz_j186_X12_fillsFar ++ (wz_j187_X12_bestWindow ++ ([] : List Cond))))))
theorem zg_j196_X12_needs : ∀ w ∈ wz_j196_X12_needs, goodWord w = true := zg_cons rfl (zg_app (by decide +kernel) (zg_app zgU_wsX120 (zg_app zg_j168_X12_isOf (zg_app zg_j186_X12_fillsFar (zg_app zg_j187_X12_bestWindow zg_nil)))))
theorem zi_j196_X12_needs : ∀ w ∈ wz_j196_X12_needs, w ∈ lw_tbl := zi_cons zw_1855 (zi_app (zi_cons zw_1755 (zi_cons zw_1757 (zi_cons zw_78 (zi_cons zw_115 (zi_cons zw_1413 (zi_cons zw_1844 (zi_cons zw_1846 (zi_cons zw_93 (zi_cons zw_1848 (zi_cons zw_1850 (zi_cons zw_94 zi_nil))))))))))) (zi_app inX12 (zi_app zi_j168_X12_isOf (zi_app zi_j186_X12_fillsFar (zi_app zi_j187_X12_bestWindow zi_nil)))))
set_option maxHeartbeats 4000000 in
set_option maxRecDepth 100000 in
theorem j196_X12_needs (l : Launch) (D : va_G) (zt : Nat × Nat × Nat × (Nat → Nat) × (Nat → Nat)) (r : Nat → Nat) (g : Nat → ClassId) (I : Nat → Int32) (A : Nat → Nat → Int32) (L : Nat → Nat → Int64) (z1 : Int32) (z2 : Int32) (hIv : IvM I A) : GM l D zt (tyM g) yX12_needs wz_j196_X12_needs ({ frames := 7, cells := 0, slots := 0, locals := 156 } : Room) [.ref (r 0), .int z1, .int z2] (wM r g I A L) (fun v _ w' => ∃ (I' : Nat → Int32) (A' : Nat → Nat → Int32) (L' : Nat → Nat → Int64), Md [18, 19, 20] I I' ∧ Md [17, 18, 19, 20, 21, 24] A A' ∧ IvM I' A' ∧ ∃ y0 : Int32, (L' = L) ∧ ((-2) ≤ y0.toInt) ∧ (y0.toInt ≤ 15) ∧ FE (fM12_needs I A L z1 z2) (y0, I', A', L') ∧ v = some (.int y0) ∧ w' = wM r g I' A' L') 0 0 := by
  refine GM.of (cc := cX12_needs) (maxL := 6) (ret := (some .int)) (own := RX12) (lv := [(0, .ref (r 0)), (1, .int z1), (2, .int z2)]) (by decide) rfl rfl (Nat.le_of_ble_eq_true rfl) rfl (fun κ sz hk hR hN => ?_)
  have hin12 : ∀ w ∈ u_ws RX12 TX12 55, w ∈ wz_j196_X12_needs := fun w h => (List.mem_cons_of_mem _ (List.mem_append_right _ (List.mem_append_left _ h)))
  have hF : FE (fM12_needs I A L z1 z2) (fM12_needs I A L z1 z2) := FE.rf
  refine g_aload_n hk dX12_needs_0 rfl ?_
  refine g_iload_n hk dX12_needs_1 rfl ?_
  refine g_iload_n hk dX12_needs_2 rfl ?_
  refine g_callV (n := 2) hk (j168_X12_isOf l D zt r g I A L z1 z2 hIv) (SP.same _) (fun _ h => h) (gi_V (List.mem_cons_of_mem _ (List.mem_append_left _ (List.mem_of_getElem? (i := 0) rfl))) (List.mem_cons_of_mem _ (List.mem_append_left _ (List.mem_of_getElem? (i := 1) rfl))) (List.mem_cons_of_mem _ (List.mem_append_left _ (List.mem_of_getElem? (i := 2) rfl))) (List.mem_cons_of_mem _ (List.mem_append_left _ (List.mem_of_getElem? (i := 3) rfl))) (gi_sub (fun w h => (List.mem_cons_of_mem _ (List.mem_append_right _ (List.mem_append_right _ (List.mem_append_left _ h))))) zg_j168_X12_isOf)) rfl rfl rfl (by decide +kernel) ⟨Nat.le_of_ble_eq_true rfl, Nat.le_of_ble_eq_true rfl⟩ 0 rfl rfl rfl rfl (Nat.le_of_ble_eq_true rfl) ⟨Nat.le_of_ble_eq_true rfl, Nat.le_of_ble_eq_true rfl⟩ dX12_needs_3 (fun v ty' w' hp hk' => ?_)
  rcases hp with ⟨hC, rfl, rfl⟩ | ⟨c33165, c33166, c33167, c33168, c33169, c33170, c33171, c33172, c33173, c33174, c33175, c33176, hC, rfl, rfl⟩
  · skip
    replace hF := FE.pos hF hC
    show GW κ 6 0 0 (wM r g I A L) 6 [(0, .ref (r 0)), (1, .int z1), (2, .int z2)] [.int 0]
    refine g_if_ne (tgt := 11) (a := 0) hk dX12_needs_6 (by decide) rfl (fun z9 => absurd z9 (show ¬ ((0 : Int) ≠ (0 : Int)) from by decide)) (fun _ => ?_)
    refine g_iconst (v := (-1)) hk dX12_needs_9 (by decide) ?_
    exact g_iret hk hR rfl ⟨I, A, L, (show Md [18, 19, 20] I I from Md.rf), (show Md [17, 18, 19, 20, 21, 24] A A from Md.rf), hIv, (-1), (show L = L from rfl), (by decide), (by decide), hF, rfl, rfl⟩ dX12_needs_10
  · skip
    replace hF := FE.neg hF (fe_ne hC (by decide))
    have f33178 : 0 ≤ (A 11 (5 * (I 15) + z1).toNatClampNeg).toInt ∧ (A 11 (5 * (I 15) + z1).toNatClampNeg).toInt ≤ 16 := IvM_a11 hIv _
    show GW κ 6 0 0 (wM r g I A L) 6 [(0, .ref (r 0)), (1, .int z1), (2, .int z2)] [.int 1]
    refine g_if_ne (tgt := 11) (a := 1) hk dX12_needs_6 (by decide) rfl (fun _ => ?_) (fun z9 => absurd (show (1 : Int) ≠ (0 : Int) from by decide) z9)
    refine g_aload_n hk dX12_needs_11 rfl ?_
    refine gM_r0_35 hk hin12 (List.mem_cons_of_mem _ (List.mem_append_left _ (List.mem_of_getElem? (i := 4) rfl))) dX12_needs_12 ?_
    refine g_sipush (v := 161) hk dX12_needs_15 (by decide) ?_
    refine lM_17 (v := (A 17 161)) hk (vp_in_iff.mpr ⟨by decide, by decide⟩) rfl dX12_needs_18 ?_
    refine g_istore_n (lv' := [(3, .int (A 17 161)), (0, .ref (r 0)), (1, .int z1), (2, .int z2)]) hk dX12_needs_19 (by decide) rfl ?_
    refine g_bipush (v := (-2)) hk dX12_needs_20 (by decide) ?_
    refine g_istore (lv' := [(4, .int (-2)), (3, .int (A 17 161)), (0, .ref (r 0)), (1, .int z1), (2, .int z2)]) hk dX12_needs_22 (by decide) rfl ?_
    refine g_bipush (v := 15) hk dX12_needs_24 (by decide) ?_
    refine g_istore (lv' := [(5, .int 15), (4, .int (-2)), (3, .int (A 17 161)), (0, .ref (r 0)), (1, .int z1), (2, .int z2)]) hk dX12_needs_26 (by decide) rfl ?_
    have lp33240 : ∀ (n33241 : Nat) (x33179 : Int32) (x33180 : Int32) (I33185 : Nat → Int32) (A33185 : Nat → Nat → Int32) (L33185 : Nat → Nat → Int64), (Md [18, 19, 20] I I33185) → (Md [17, 18, 19, 20, 21, 24] A A33185) → (IvM I33185 A33185) → (L33185 = L) → ((-1) ≤ x33179.toInt) → (x33179.toInt ≤ 15) → ((-2) ≤ x33180.toInt) → (x33180.toInt ≤ 15) → (x33179.toInt + 1 - 0 < (n33241 : Int)) → (0 < n33241) → (FE (fM12_needs I A L z1 z2) (itr_iiIAL dfM (bM12_needs_28 A z1 z2) n33241 x33179 x33180 I33185 A33185 L33185)) → GW κ 6 0 0 (wM r g I33185 A33185 L33185) 28 [(5, .int x33179), (4, .int x33180), (3, .int (A 17 161)), (0, .ref (r 0)), (1, .int z1), (2, .int z2)] [] := by
      intro n33241
      induction n33241 with
      | zero =>
        intro x33179 x33180 I33185 A33185 L33185 hI33185 hA33185 hV33185 hL33185 h33236 h33237 h33238 h33239 m33242 m33242z hF
        exact absurd m33242z (Nat.lt_irrefl 0)
      | succ n33241 ih33244 =>
        intro x33179 x33180 I33185 A33185 L33185 hI33185 hA33185 hV33185 hL33185 h33236 h33237 h33238 h33239 m33242 m33242z hF
        replace hF := FE.itr_iiIAL hF
        refine g_iload hk dX12_needs_28 rfl ?_
        refine g_if_lt (tgt := 66) (a := x33179.toInt) hk dX12_needs_30 (by decide) rfl (fun c33245 => ?_) (fun c33245 => ?_)
        · skip
          replace hF := FE.pos hF c33245
          refine g_aload_n hk dX12_needs_66 rfl ?_
          refine gM_r0_35 hk hin12 (List.mem_cons_of_mem _ (List.mem_append_left _ (List.mem_of_getElem? (i := 4) rfl))) dX12_needs_67 ?_
          refine g_sipush (v := 161) hk dX12_needs_70 (by decide) ?_
          refine g_iload_n hk dX12_needs_73 rfl ?_
          refine sM_17 (j := 161) hk (vp_in_iff.mpr ⟨by decide, by decide⟩) (by decide) dX12_needs_74 ?_
          have f33246 := IvM_s17_0 hV33185
          have f33247 := IvM_s17_164 hV33185
          refine g_iload hk dX12_needs_75 rfl ?_
          exact g_iret hk hR rfl ⟨I33185, (up3 A33185 17 161 (A 17 161)), L33185, (show Md [18, 19, 20] I I33185 from (Md.tr Md.rf hI33185 rfl)), (show Md [17, 18, 19, 20, 21, 24] A (up3 A33185 17 161 (A 17 161)) from (Md.up3 (Md.tr Md.rf hA33185 rfl) rfl)), ⟨(IvM_f1 (I := I33185) (A := A33185) hV33185), (IvM_f2 (I := I33185) (A := A33185) hV33185), (IvM_f3 (I := I33185) (A := A33185) hV33185), (IvM_f4 (I := I33185) (A := A33185) hV33185), (IvM_f6 (I := I33185) (A := A33185) hV33185), (IvM_f8 (I := I33185) (A := A33185) hV33185), (IvM_f15 (I := I33185) (A := A33185) hV33185), (IvM_f16 (I := I33185) (A := A33185) hV33185), (IvM_f17 (I := I33185) (A := A33185) hV33185), (IvM_f18 (I := I33185) (A := A33185) hV33185), (IvM_f22 (I := I33185) (A := A33185) hV33185), (IvM_f23 (I := I33185) (A := A33185) hV33185), (IvM_f24 (I := I33185) (A := A33185) hV33185), (IvM_a11 (I := I33185) (A := A33185) hV33185), (IvM_a26 (I := I33185) (A := A33185) hV33185), (IvM_s8_0 (I := I33185) (A := A33185) hV33185), (IvM_s8_1 (I := I33185) (A := A33185) hV33185), (IvM_s10_0 (I := I33185) (A := A33185) hV33185), (IvM_s10_1 (I := I33185) (A := A33185) hV33185), (show 0 ≤ ((up3 A33185 17 161 (A 17 161)) 17 0).toInt ∧ ((up3 A33185 17 161 (A 17 161)) 17 0).toInt ≤ 160 from by rw [show (up3 A33185 17 161 (A 17 161)) 17 0 = (A33185 17 0) from rfl]; exact (IvM_s17_0 (I := I33185) (A := A33185) hV33185)), (show 1 ≤ ((up3 A33185 17 161 (A 17 161)) 17 164).toInt ∧ ((up3 A33185 17 161 (A 17 161)) 17 164).toInt ≤ 2147483647 from by rw [show (up3 A33185 17 161 (A 17 161)) 17 164 = (A33185 17 164) from rfl]; exact (IvM_s17_164 (I := I33185) (A := A33185) hV33185)), (IvM_lv (I := I33185) (A := A33185) hV33185), (IvM_sd (I := I33185) (A := A33185) hV33185), (IvM_nq (I := I33185) (A := A33185) hV33185), (IvM_hr (I := I33185) (A := A33185) hV33185), (IvM_hh (I := I33185) (A := A33185) hV33185), trivial⟩, x33180, (show L33185 = L from hL33185), (by omega), (by omega), hF, rfl, rfl⟩ dX12_needs_77
        · skip
          replace hF := FE.neg hF c33245
          refine g_aload_n hk dX12_needs_33 rfl ?_
          refine gM_r0_35 hk hin12 (List.mem_cons_of_mem _ (List.mem_append_left _ (List.mem_of_getElem? (i := 4) rfl))) dX12_needs_34 ?_
          refine g_sipush (v := 161) hk dX12_needs_37 (by decide) ?_
          refine g_iload hk dX12_needs_40 rfl ?_
          refine sM_17 (j := 161) hk (vp_in_iff.mpr ⟨by decide, by decide⟩) (by decide) dX12_needs_42 ?_
          have f33248 := IvM_s17_0 hV33185
          have f33249 := IvM_s17_164 hV33185
          refine g_aload_n hk dX12_needs_43 rfl ?_
          refine g_iload_n hk dX12_needs_44 rfl ?_
          refine g_callV (n := 1) hk (j186_X12_fillsFar l D zt r g I33185 (up3 A33185 17 161 x33179) L33185 z1 ⟨(IvM_f1 (I := I33185) (A := A33185) hV33185), (IvM_f2 (I := I33185) (A := A33185) hV33185), (IvM_f3 (I := I33185) (A := A33185) hV33185), (IvM_f4 (I := I33185) (A := A33185) hV33185), (IvM_f6 (I := I33185) (A := A33185) hV33185), (IvM_f8 (I := I33185) (A := A33185) hV33185), (IvM_f15 (I := I33185) (A := A33185) hV33185), (IvM_f16 (I := I33185) (A := A33185) hV33185), (IvM_f17 (I := I33185) (A := A33185) hV33185), (IvM_f18 (I := I33185) (A := A33185) hV33185), (IvM_f22 (I := I33185) (A := A33185) hV33185), (IvM_f23 (I := I33185) (A := A33185) hV33185), (IvM_f24 (I := I33185) (A := A33185) hV33185), (IvM_a11 (I := I33185) (A := A33185) hV33185), (IvM_a26 (I := I33185) (A := A33185) hV33185), (IvM_s8_0 (I := I33185) (A := A33185) hV33185), (IvM_s8_1 (I := I33185) (A := A33185) hV33185), (IvM_s10_0 (I := I33185) (A := A33185) hV33185), (IvM_s10_1 (I := I33185) (A := A33185) hV33185), (show 0 ≤ ((up3 A33185 17 161 x33179) 17 0).toInt ∧ ((up3 A33185 17 161 x33179) 17 0).toInt ≤ 160 from by rw [show (up3 A33185 17 161 x33179) 17 0 = (A33185 17 0) from rfl]; exact (IvM_s17_0 (I := I33185) (A := A33185) hV33185)), (show 1 ≤ ((up3 A33185 17 161 x33179) 17 164).toInt ∧ ((up3 A33185 17 161 x33179) 17 164).toInt ≤ 2147483647 from by rw [show (up3 A33185 17 161 x33179) 17 164 = (A33185 17 164) from rfl]; exact (IvM_s17_164 (I := I33185) (A := A33185) hV33185)), (IvM_lv (I := I33185) (A := A33185) hV33185), (IvM_sd (I := I33185) (A := A33185) hV33185), (IvM_nq (I := I33185) (A := A33185) hV33185), (IvM_hr (I := I33185) (A := A33185) hV33185), (IvM_hh (I := I33185) (A := A33185) hV33185), trivial⟩ (by omega) (by omega)) (SP.same _) (fun _ h => h) (gi_V (List.mem_cons_of_mem _ (List.mem_append_left _ (List.mem_of_getElem? (i := 5) rfl))) (List.mem_cons_of_mem _ (List.mem_append_left _ (List.mem_of_getElem? (i := 6) rfl))) (List.mem_cons_of_mem _ (List.mem_append_left _ (List.mem_of_getElem? (i := 7) rfl))) (List.mem_cons_of_mem _ (List.mem_append_left _ (List.mem_of_getElem? (i := 3) rfl))) (gi_sub (fun w h => (List.mem_cons_of_mem _ (List.mem_append_right _ (List.mem_append_right _ (List.mem_append_right _ (List.mem_append_left _ h)))))) zg_j186_X12_fillsFar)) rfl rfl rfl (by decide +kernel) ⟨Nat.le_of_ble_eq_true rfl, Nat.le_of_ble_eq_true rfl⟩ 0 rfl rfl rfl rfl (Nat.le_of_ble_eq_true rfl) ⟨Nat.le_of_ble_eq_true rfl, Nat.le_of_ble_eq_true rfl⟩ dX12_needs_45 (fun v ty' w' hp hk' => ?_)
          obtain ⟨I33251, A33251, L33251, hI33251, hA33251, hV33251, r33252, hL33251, hC, rfl, rfl⟩ := hp
          replace hF := FE.bdM hF hC
          show GW κ 6 0 0 (wM r g I33251 A33251 L33251) 48 [(5, .int x33179), (4, .int x33180), (3, .int (A 17 161)), (0, .ref (r 0)), (1, .int z1), (2, .int z2)] []
          refine g_aload_n hk dX12_needs_48 rfl ?_
          refine g_callV (n := 0) hk (j187_X12_bestWindow l D zt r g I33251 A33251 L33251  hV33251) (SP.same _) (fun _ h => h) (gi_V (List.mem_cons_of_mem _ (List.mem_append_left _ (List.mem_of_getElem? (i := 8) rfl))) (List.mem_cons_of_mem _ (List.mem_append_left _ (List.mem_of_getElem? (i := 9) rfl))) (List.mem_cons_of_mem _ (List.mem_append_left _ (List.mem_of_getElem? (i := 10) rfl))) (List.mem_cons_of_mem _ (List.mem_append_left _ (List.mem_of_getElem? (i := 3) rfl))) (gi_sub (fun w h => (List.mem_cons_of_mem _ (List.mem_append_right _ (List.mem_append_right _ (List.mem_append_right _ (List.mem_append_right _ (List.mem_append_left _ h))))))) zg_j187_X12_bestWindow)) rfl rfl rfl (by decide +kernel) ⟨Nat.le_of_ble_eq_true rfl, Nat.le_of_ble_eq_true rfl⟩ 0 rfl rfl rfl rfl (Nat.le_of_ble_eq_true rfl) ⟨Nat.le_of_ble_eq_true rfl, Nat.le_of_ble_eq_true rfl⟩ dX12_needs_49 (fun v ty' w' hp hk' => ?_)
          obtain ⟨y33253, c33254, c33255, hC, rfl, rfl⟩ := hp
          replace hF := FE.lt hF (fe_s hC)
          show GW κ 6 0 0 (wM r g I33251 A33251 L33251) 52 [(5, .int x33179), (4, .int x33180), (3, .int (A 17 161)), (0, .ref (r 0)), (1, .int z1), (2, .int z2)] [.int y33253]
          refine g_iload_n hk dX12_needs_52 rfl ?_
          refine g_icmp_ne (tgt := 60) (a := y33253.toInt) (b := z2.toInt) hk dX12_needs_53 (by decide) rfl rfl (fun c33256 => ?_) (fun c33256 => ?_)
          · skip
            replace hF := FE.pos hF c33256
            obtain ⟨y33257, ey33257⟩ : ∃ y : Int32, y = x33179 + Int32.ofInt (-1) := ⟨_, rfl⟩
            replace hF := FE.lt hF ey33257
            have hy33257 : y33257.toInt = x33179.toInt + (-1) := i32_add ey33257 rfl (by decide) (by omega) (by omega)
            refine g_iinc (v := y33257) (lv' := [(5, .int y33257), (4, .int x33180), (3, .int (A 17 161)), (0, .ref (r 0)), (1, .int z1), (2, .int z2)]) hk 0 dX12_needs_60 rfl ey33257.symm (by decide) rfl ?_
            refine g_goto (tgt := 28) hk dX12_needs_63 (by decide) ?_
            exact g_lv (List.forall_mem_cons.mpr ⟨List.mem_of_getElem? (i := 0) rfl, (List.forall_mem_cons.mpr ⟨List.mem_of_getElem? (i := 1) rfl, (List.forall_mem_cons.mpr ⟨List.mem_of_getElem? (i := 2) rfl, (List.forall_mem_cons.mpr ⟨List.mem_of_getElem? (i := 3) rfl, (List.forall_mem_cons.mpr ⟨List.mem_of_getElem? (i := 4) rfl, (List.forall_mem_cons.mpr ⟨List.mem_of_getElem? (i := 5) rfl, (fun _ h => absurd h List.not_mem_nil)⟩)⟩)⟩)⟩)⟩)⟩) (ih33244 y33257 x33180 I33251 A33251 L33251 (show Md [18, 19, 20] I I33251 from Md.tr hI33185 (show Md [18, 19, 20] I33185 I33251 from (Md.tr Md.rf hI33251 rfl)) rfl) (show Md [17, 18, 19, 20, 21, 24] A A33251 from Md.tr hA33185 (show Md [17, 18, 19, 20, 21, 24] A33185 A33251 from (Md.tr (Md.up3 Md.rf rfl) hA33251 rfl)) rfl) hV33251 (show L33251 = L from (hL33251.trans hL33185)) (by omega) (by omega) (by omega) (by omega) (by omega) (by omega) hF)
          · skip
            replace hF := FE.neg hF c33256
            refine g_iload hk dX12_needs_56 rfl ?_
            refine g_istore (lv' := [(4, .int x33179), (5, .int x33179), (3, .int (A 17 161)), (0, .ref (r 0)), (1, .int z1), (2, .int z2)]) hk dX12_needs_58 (by decide) rfl ?_
            obtain ⟨y33258, ey33258⟩ : ∃ y : Int32, y = x33179 + Int32.ofInt (-1) := ⟨_, rfl⟩
            replace hF := FE.lt hF ey33258
            have hy33258 : y33258.toInt = x33179.toInt + (-1) := i32_add ey33258 rfl (by decide) (by omega) (by omega)
            refine g_iinc (v := y33258) (lv' := [(5, .int y33258), (4, .int x33179), (3, .int (A 17 161)), (0, .ref (r 0)), (1, .int z1), (2, .int z2)]) hk 1 dX12_needs_60 rfl ey33258.symm (by decide) rfl ?_
            refine g_goto (tgt := 28) hk dX12_needs_63 (by decide) ?_
            exact g_lv (List.forall_mem_cons.mpr ⟨List.mem_of_getElem? (i := 0) rfl, (List.forall_mem_cons.mpr ⟨List.mem_of_getElem? (i := 1) rfl, (List.forall_mem_cons.mpr ⟨List.mem_of_getElem? (i := 2) rfl, (List.forall_mem_cons.mpr ⟨List.mem_of_getElem? (i := 3) rfl, (List.forall_mem_cons.mpr ⟨List.mem_of_getElem? (i := 4) rfl, (List.forall_mem_cons.mpr ⟨List.mem_of_getElem? (i := 5) rfl, (fun _ h => absurd h List.not_mem_nil)⟩)⟩)⟩)⟩)⟩)⟩) (ih33244 y33258 x33179 I33251 A33251 L33251 (show Md [18, 19, 20] I I33251 from Md.tr hI33185 (show Md [18, 19, 20] I33185 I33251 from (Md.tr Md.rf hI33251 rfl)) rfl) (show Md [17, 18, 19, 20, 21, 24] A A33251 from Md.tr hA33185 (show Md [17, 18, 19, 20, 21, 24] A33185 A33251 from (Md.tr (Md.up3 Md.rf rfl) hA33251 rfl)) rfl) hV33251 (show L33251 = L from (hL33251.trans hL33185)) (by omega) (by omega) (by omega) (by omega) (by omega) (by omega) hF)
    have k33259 : (15 : Int32).toInt = 15 := rfl
    have k33260 : ((-2) : Int32).toInt = (-2) := rfl
    have b33262 := Int32.le_toInt (15 : Int32)
    have b33263 := Int32.toInt_lt (15 : Int32)
    have n33261a : (15 : Int32).toInt + 1 - 0 < (FU : Int) := by have := FU_eq; omega
    have n33261b : 0 < FU := by have := FU_eq; omega
    exact lp33240 FU 15 (-2) I A L Md.rf Md.rf hIv rfl (by omega) (by omega) (by omega) (by omega) n33261a n33261b hF
noncomputable def fM12_alike (I : Nat → Int32) (A : Nat → Nat → Int32) (L : Nat → Nat → Int64) (z1 : Int32) (z2 : Int32) : Int32 × (Nat → Int32) × (Nat → Nat → Int32) × (Nat → Nat → Int64) := if fM12_isQuery I A L z1 = 0 then ((-1), I, A, L) else if fM12_isQuery I A L z2 = 0 then ((-1), I, A, L) else if (A 11 (5 * (I 15) + z1).toNatClampNeg).toInt = (A 11 (5 * (I 15) + z2).toNatClampNeg).toInt then f_bdM (fM12_copies I A L) fun _ I33280 A33280 L33280 => f_bdM (fM12_laysQuery (upd I33280 18 (A 11 (5 * (I 15) + z1).toNatClampNeg)) A33280 L33280 z2) fun _ I33286 A33286 L33286 => f_bdM (fM12_changesBoth I33286 A33286 L33286 (A 11 (5 * (I 15) + z1).toNatClampNeg)) fun _ I33288 A33288 L33288 => f_bdM (fM12_laysQuery I33288 A33288 L33288 z1) fun _ I33290 A33290 L33290 => f_bdM (fM12_laysTable I33290 A33290 L33290 2000000000) fun y33292 I33293 A33293 L33293 => (y33292, I33293, A33293, L33293) else ((-2), I, A, L)
def wo_j197_X12_alike : List Cond := [Cond.methodLink RX12 251 yX12_isQuery, Cond.instanceMethod yX12_isQuery, Cond.selects RX12 yX12_isQuery yX12_isQuery, Cond.initialized RX12, Cond.methodLink RX12 254 yX12_wideOf, Cond.instanceMethod yX12_wideOf, Cond.selects RX12 yX12_wideOf yX12_wideOf, Cond.methodLink RX12 323 yX12_copies, Cond.instanceMethod yX12_copies, Cond.selects RX12 yX12_copies yX12_copies, Cond.fieldLink RX12 267 "WarpDeskModel" "wide" "I", Cond.methodLink RX12 276 yX12_laysQuery, Cond.instanceMethod yX12_laysQuery, Cond.selects RX12 yX12_laysQuery yX12_laysQuery, Cond.methodLink RX12 273 yX12_changesBoth, Cond.instanceMethod yX12_changesBoth, Cond.selects RX12 yX12_changesBoth yX12_changesBoth, Cond.constant RX12 282 (2000000000), Cond.methodLink RX12 304 yX12_laysTable, Cond.instanceMethod yX12_laysTable, Cond.selects RX12 yX12_laysTable yX12_laysTable]
def wz_j197_X12_alike : List Cond := .code yX12_alike cX12_alike 3 (some .int) :: (wo_j197_X12_alike ++ (wsX120 ++ (wz_j147_X12_isQuery ++ (wz_j148_X12_wideOf ++ (wz_j151_X12_copies ++ (wz_j172_X12_laysQuery ++ (wz_j171_X12_changesBoth ++ (wz_j173_X12_laysTable ++ ([] : List Cond)))))))))
theorem zg_j197_X12_alike : ∀ w ∈ wz_j197_X12_alike, goodWord w = true := zg_cons rfl (zg_app (by decide +kernel) (zg_app zgU_wsX120 (zg_app zg_j147_X12_isQuery (zg_app zg_j148_X12_wideOf (zg_app zg_j151_X12_copies (zg_app zg_j172_X12_laysQuery (zg_app zg_j171_X12_changesBoth (zg_app zg_j173_X12_laysTable zg_nil))))))))
theorem zi_j197_X12_alike : ∀ w ∈ wz_j197_X12_alike, w ∈ lw_tbl := zi_cons zw_1827 (zi_app (zi_cons zw_1663 (zi_cons zw_1665 (zi_cons zw_67 (zi_cons zw_115 (zi_cons zw_1667 (zi_cons zw_1669 (zi_cons zw_68 (zi_cons zw_1679 (zi_cons zw_1681 (zi_cons zw_70 (zi_cons zw_1415 (zi_cons zw_1771 (zi_cons zw_1773 (zi_cons zw_82 (zi_cons zw_1767 (zi_cons zw_1769 (zi_cons zw_81 (zi_cons zw_1775 (zi_cons zw_1776 (zi_cons zw_1778 (zi_cons zw_83 zi_nil))))))))))))))))))))) (zi_app inX12 (zi_app zi_j147_X12_isQuery (zi_app zi_j148_X12_wideOf (zi_app zi_j151_X12_copies (zi_app zi_j172_X12_laysQuery (zi_app zi_j171_X12_changesBoth (zi_app zi_j173_X12_laysTable zi_nil))))))))
set_option maxHeartbeats 4000000 in
set_option maxRecDepth 100000 in
theorem j197_X12_alike (l : Launch) (D : va_G) (zt : Nat × Nat × Nat × (Nat → Nat) × (Nat → Nat)) (r : Nat → Nat) (g : Nat → ClassId) (I : Nat → Int32) (A : Nat → Nat → Int32) (L : Nat → Nat → Int64) (z1 : Int32) (z2 : Int32) (hIv : IvM I A) : GM l D zt (tyM g) yX12_alike wz_j197_X12_alike ({ frames := 5, cells := 0, slots := 0, locals := 112 } : Room) [.ref (r 0), .int z1, .int z2] (wM r g I A L) (fun v _ w' => ∃ (I' : Nat → Int32) (A' : Nat → Nat → Int32) (L' : Nat → Nat → Int64), Md [18, 19, 20] I I' ∧ Md [18, 19, 20, 21] A A' ∧ IvM I' A' ∧ ∃ y0 : Int32, (L' = L) ∧ FE (fM12_alike I A L z1 z2) (y0, I', A', L') ∧ v = some (.int y0) ∧ w' = wM r g I' A' L') 0 0 := by
  refine GM.of (cc := cX12_alike) (maxL := 3) (ret := (some .int)) (own := RX12) (lv := [(0, .ref (r 0)), (1, .int z1), (2, .int z2)]) (by decide) rfl rfl (Nat.le_of_ble_eq_true rfl) rfl (fun κ sz hk hR hN => ?_)
  have hin12 : ∀ w ∈ u_ws RX12 TX12 55, w ∈ wz_j197_X12_alike := fun w h => (List.mem_cons_of_mem _ (List.mem_append_right _ (List.mem_append_left _ h)))
  have hF : FE (fM12_alike I A L z1 z2) (fM12_alike I A L z1 z2) := FE.rf
  refine g_aload_n hk dX12_alike_0 rfl ?_
  refine g_iload_n hk dX12_alike_1 rfl ?_
  refine g_callV (n := 1) hk (j147_X12_isQuery l D zt r g I A L z1 hIv) (SP.same _) (fun _ h => h) (gi_V (List.mem_cons_of_mem _ (List.mem_append_left _ (List.mem_of_getElem? (i := 0) rfl))) (List.mem_cons_of_mem _ (List.mem_append_left _ (List.mem_of_getElem? (i := 1) rfl))) (List.mem_cons_of_mem _ (List.mem_append_left _ (List.mem_of_getElem? (i := 2) rfl))) (List.mem_cons_of_mem _ (List.mem_append_left _ (List.mem_of_getElem? (i := 3) rfl))) (gi_sub (fun w h => (List.mem_cons_of_mem _ (List.mem_append_right _ (List.mem_append_right _ (List.mem_append_left _ h))))) zg_j147_X12_isQuery)) rfl rfl rfl (by decide +kernel) ⟨Nat.le_of_ble_eq_true rfl, Nat.le_of_ble_eq_true rfl⟩ 0 rfl rfl rfl rfl (Nat.le_of_ble_eq_true rfl) ⟨Nat.le_of_ble_eq_true rfl, Nat.le_of_ble_eq_true rfl⟩ dX12_alike_2 (fun v ty' w' hp hk' => ?_)
  rcases hp with ⟨hC, rfl, rfl⟩ | ⟨c33265, c33266, c33267, c33268, hC, rfl, rfl⟩
  · skip
    replace hF := FE.pos hF hC
    show GW κ 3 0 0 (wM r g I A L) 5 [(0, .ref (r 0)), (1, .int z1), (2, .int z2)] [.int 0]
    refine g_if_eq (tgt := 16) (a := 0) hk dX12_alike_5 (by decide) rfl (fun _ => ?_) (fun z9 => absurd (show (0 : Int) = (0 : Int) from by decide) z9)
    refine g_iconst (v := (-1)) hk dX12_alike_16 (by decide) ?_
    exact g_iret hk hR rfl ⟨I, A, L, (show Md [18, 19, 20] I I from Md.rf), (show Md [18, 19, 20, 21] A A from Md.rf), hIv, (-1), (show L = L from rfl), hF, rfl, rfl⟩ dX12_alike_17
  · skip
    replace hF := FE.neg hF (fe_ne hC (by decide))
    have f33270 : 0 ≤ (A 11 (5 * (I 15) + z1).toNatClampNeg).toInt ∧ (A 11 (5 * (I 15) + z1).toNatClampNeg).toInt ≤ 16 := IvM_a11 hIv _
    show GW κ 3 0 0 (wM r g I A L) 5 [(0, .ref (r 0)), (1, .int z1), (2, .int z2)] [.int 1]
    refine g_if_eq (tgt := 16) (a := 1) hk dX12_alike_5 (by decide) rfl (fun z9 => absurd z9 (show ¬ ((1 : Int) = (0 : Int)) from by decide)) (fun _ => ?_)
    refine g_aload_n hk dX12_alike_8 rfl ?_
    refine g_iload_n hk dX12_alike_9 rfl ?_
    refine g_callV (n := 1) hk (j147_X12_isQuery l D zt r g I A L z2 hIv) (SP.same _) (fun _ h => h) (gi_V (List.mem_cons_of_mem _ (List.mem_append_left _ (List.mem_of_getElem? (i := 0) rfl))) (List.mem_cons_of_mem _ (List.mem_append_left _ (List.mem_of_getElem? (i := 1) rfl))) (List.mem_cons_of_mem _ (List.mem_append_left _ (List.mem_of_getElem? (i := 2) rfl))) (List.mem_cons_of_mem _ (List.mem_append_left _ (List.mem_of_getElem? (i := 3) rfl))) (gi_sub (fun w h => (List.mem_cons_of_mem _ (List.mem_append_right _ (List.mem_append_right _ (List.mem_append_left _ h))))) zg_j147_X12_isQuery)) rfl rfl rfl (by decide +kernel) ⟨Nat.le_of_ble_eq_true rfl, Nat.le_of_ble_eq_true rfl⟩ 0 rfl rfl rfl rfl (Nat.le_of_ble_eq_true rfl) ⟨Nat.le_of_ble_eq_true rfl, Nat.le_of_ble_eq_true rfl⟩ dX12_alike_10 (fun v ty' w' hp hk' => ?_)
    rcases hp with ⟨hC, rfl, rfl⟩ | ⟨c33272, c33273, c33274, c33275, hC, rfl, rfl⟩
    · skip
      replace hF := FE.pos hF hC
      show GW κ 3 0 0 (wM r g I A L) 13 [(0, .ref (r 0)), (1, .int z1), (2, .int z2)] [.int 0]
      refine g_if_ne (tgt := 18) (a := 0) hk dX12_alike_13 (by decide) rfl (fun z9 => absurd z9 (show ¬ ((0 : Int) ≠ (0 : Int)) from by decide)) (fun _ => ?_)
      refine g_iconst (v := (-1)) hk dX12_alike_16 (by decide) ?_
      exact g_iret hk hR rfl ⟨I, A, L, (show Md [18, 19, 20] I I from Md.rf), (show Md [18, 19, 20, 21] A A from Md.rf), hIv, (-1), (show L = L from rfl), hF, rfl, rfl⟩ dX12_alike_17
    · skip
      replace hF := FE.neg hF (fe_ne hC (by decide))
      have f33277 : 0 ≤ (A 11 (5 * (I 15) + z2).toNatClampNeg).toInt ∧ (A 11 (5 * (I 15) + z2).toNatClampNeg).toInt ≤ 16 := IvM_a11 hIv _
      show GW κ 3 0 0 (wM r g I A L) 13 [(0, .ref (r 0)), (1, .int z1), (2, .int z2)] [.int 1]
      refine g_if_ne (tgt := 18) (a := 1) hk dX12_alike_13 (by decide) rfl (fun _ => ?_) (fun z9 => absurd (show (1 : Int) ≠ (0 : Int) from by decide) z9)
      refine g_aload_n hk dX12_alike_18 rfl ?_
      refine g_iload_n hk dX12_alike_19 rfl ?_
      refine g_callV (n := 1) hk (j148_X12_wideOf l D zt r g I A L z1 hIv (by omega) (by omega)) (SP.same _) (fun _ h => h) (gi_V (List.mem_cons_of_mem _ (List.mem_append_left _ (List.mem_of_getElem? (i := 4) rfl))) (List.mem_cons_of_mem _ (List.mem_append_left _ (List.mem_of_getElem? (i := 5) rfl))) (List.mem_cons_of_mem _ (List.mem_append_left _ (List.mem_of_getElem? (i := 6) rfl))) (List.mem_cons_of_mem _ (List.mem_append_left _ (List.mem_of_getElem? (i := 3) rfl))) (gi_sub (fun w h => (List.mem_cons_of_mem _ (List.mem_append_right _ (List.mem_append_right _ (List.mem_append_right _ (List.mem_append_left _ h)))))) zg_j148_X12_wideOf)) rfl rfl rfl (by decide +kernel) ⟨Nat.le_of_ble_eq_true rfl, Nat.le_of_ble_eq_true rfl⟩ 0 rfl rfl rfl rfl (Nat.le_of_ble_eq_true rfl) ⟨Nat.le_of_ble_eq_true rfl, Nat.le_of_ble_eq_true rfl⟩ dX12_alike_20 (fun v ty' w' hp hk' => ?_)
      obtain ⟨rfl, rfl⟩ := hp
      show GW κ 3 0 0 (wM r g I A L) 23 [(0, .ref (r 0)), (1, .int z1), (2, .int z2)] [.int (A 11 (5 * (I 15) + z1).toNatClampNeg)]
      refine g_aload_n hk dX12_alike_23 rfl ?_
      refine g_iload_n hk dX12_alike_24 rfl ?_
      refine g_callV (n := 1) hk (j148_X12_wideOf l D zt r g I A L z2 hIv (by omega) (by omega)) (SP.same _) (fun _ h => h) (gi_V (List.mem_cons_of_mem _ (List.mem_append_left _ (List.mem_of_getElem? (i := 4) rfl))) (List.mem_cons_of_mem _ (List.mem_append_left _ (List.mem_of_getElem? (i := 5) rfl))) (List.mem_cons_of_mem _ (List.mem_append_left _ (List.mem_of_getElem? (i := 6) rfl))) (List.mem_cons_of_mem _ (List.mem_append_left _ (List.mem_of_getElem? (i := 3) rfl))) (gi_sub (fun w h => (List.mem_cons_of_mem _ (List.mem_append_right _ (List.mem_append_right _ (List.mem_append_right _ (List.mem_append_left _ h)))))) zg_j148_X12_wideOf)) rfl rfl rfl (by decide +kernel) ⟨Nat.le_of_ble_eq_true rfl, Nat.le_of_ble_eq_true rfl⟩ 0 rfl rfl rfl rfl (Nat.le_of_ble_eq_true rfl) ⟨Nat.le_of_ble_eq_true rfl, Nat.le_of_ble_eq_true rfl⟩ dX12_alike_25 (fun v ty' w' hp hk' => ?_)
      obtain ⟨rfl, rfl⟩ := hp
      show GW κ 3 0 0 (wM r g I A L) 28 [(0, .ref (r 0)), (1, .int z1), (2, .int z2)] [.int (A 11 (5 * (I 15) + z2).toNatClampNeg), .int (A 11 (5 * (I 15) + z1).toNatClampNeg)]
      refine g_icmp_eq (tgt := 34) (a := (A 11 (5 * (I 15) + z1).toNatClampNeg).toInt) (b := (A 11 (5 * (I 15) + z2).toNatClampNeg).toInt) hk dX12_alike_28 (by decide) rfl rfl (fun c33278 => ?_) (fun c33278 => ?_)
      · skip
        replace hF := FE.pos hF c33278
        refine g_aload_n hk dX12_alike_34 rfl ?_
        refine g_callV (n := 0) hk (j151_X12_copies l D zt r g I A L  hIv) (SP.same _) (fun _ h => h) (gi_V (List.mem_cons_of_mem _ (List.mem_append_left _ (List.mem_of_getElem? (i := 7) rfl))) (List.mem_cons_of_mem _ (List.mem_append_left _ (List.mem_of_getElem? (i := 8) rfl))) (List.mem_cons_of_mem _ (List.mem_append_left _ (List.mem_of_getElem? (i := 9) rfl))) (List.mem_cons_of_mem _ (List.mem_append_left _ (List.mem_of_getElem? (i := 3) rfl))) (gi_sub (fun w h => (List.mem_cons_of_mem _ (List.mem_append_right _ (List.mem_append_right _ (List.mem_append_right _ (List.mem_append_right _ (List.mem_append_left _ h))))))) zg_j151_X12_copies)) rfl rfl rfl (by decide +kernel) ⟨Nat.le_of_ble_eq_true rfl, Nat.le_of_ble_eq_true rfl⟩ 0 rfl rfl rfl rfl (Nat.le_of_ble_eq_true rfl) ⟨Nat.le_of_ble_eq_true rfl, Nat.le_of_ble_eq_true rfl⟩ dX12_alike_35 (fun v ty' w' hp hk' => ?_)
        obtain ⟨I33280, A33280, L33280, hI33280, hA33280, hV33280, r33281, r33282, hL33280, hC, rfl, rfl⟩ := hp
        replace hF := FE.bdM hF hC
        have f33283 := IvM_s17_0 hIv
        have f33284 := IvM_s17_164 hIv
        show GW κ 3 0 0 (wM r g I33280 A33280 L33280) 38 [(0, .ref (r 0)), (1, .int z1), (2, .int z2)] []
        refine g_aload_n hk dX12_alike_38 rfl ?_
        refine g_aload_n hk dX12_alike_39 rfl ?_
        refine g_iload_n hk dX12_alike_40 rfl ?_
        refine g_callV (n := 1) hk (j148_X12_wideOf l D zt r g I33280 A33280 L33280 z1 hV33280 (by omega) (by omega)) (SP.same _) (fun _ h => h) (gi_V (List.mem_cons_of_mem _ (List.mem_append_left _ (List.mem_of_getElem? (i := 4) rfl))) (List.mem_cons_of_mem _ (List.mem_append_left _ (List.mem_of_getElem? (i := 5) rfl))) (List.mem_cons_of_mem _ (List.mem_append_left _ (List.mem_of_getElem? (i := 6) rfl))) (List.mem_cons_of_mem _ (List.mem_append_left _ (List.mem_of_getElem? (i := 3) rfl))) (gi_sub (fun w h => (List.mem_cons_of_mem _ (List.mem_append_right _ (List.mem_append_right _ (List.mem_append_right _ (List.mem_append_left _ h)))))) zg_j148_X12_wideOf)) rfl rfl rfl (by decide +kernel) ⟨Nat.le_of_ble_eq_true rfl, Nat.le_of_ble_eq_true rfl⟩ 0 rfl rfl rfl rfl (Nat.le_of_ble_eq_true rfl) ⟨Nat.le_of_ble_eq_true rfl, Nat.le_of_ble_eq_true rfl⟩ dX12_alike_41 (fun v ty' w' hp hk' => ?_)
        obtain ⟨rfl, rfl⟩ := hp
        show GW κ 3 0 0 (wM r g I33280 A33280 L33280) 44 [(0, .ref (r 0)), (1, .int z1), (2, .int z2)] [.int (A33280 11 (5 * (I33280 15) + z1).toNatClampNeg), .ref (r 0)]
        refine g_norm (v := (A 11 (5 * (I 15) + z1).toNatClampNeg)) (by rw [show I33280 15 = (I 15) from (hI33280 15 rfl)]; exact (congrFun (hA33280 11 rfl) _)) ?_
        refine pM_i18 hk hin12 (List.mem_cons_of_mem _ (List.mem_append_left _ (List.mem_of_getElem? (i := 10) rfl))) dX12_alike_44 ?_
        refine g_aload_n hk dX12_alike_47 rfl ?_
        refine g_iload_n hk dX12_alike_48 rfl ?_
        refine g_callV (n := 1) hk (j172_X12_laysQuery l D zt r g (upd I33280 18 (A 11 (5 * (I 15) + z1).toNatClampNeg)) A33280 L33280 z2 ⟨(IvM_f1 (I := I33280) (A := A33280) hV33280), (IvM_f2 (I := I33280) (A := A33280) hV33280), (IvM_f3 (I := I33280) (A := A33280) hV33280), (IvM_f4 (I := I33280) (A := A33280) hV33280), (IvM_f6 (I := I33280) (A := A33280) hV33280), (IvM_f8 (I := I33280) (A := A33280) hV33280), (IvM_f15 (I := I33280) (A := A33280) hV33280), (IvM_f16 (I := I33280) (A := A33280) hV33280), (IvM_f17 (I := I33280) (A := A33280) hV33280), (show 0 ≤ (A 11 (5 * (I 15) + z1).toNatClampNeg).toInt ∧ (A 11 (5 * (I 15) + z1).toNatClampNeg).toInt ≤ 16 from ⟨by omega, by omega⟩), (IvM_f22 (I := I33280) (A := A33280) hV33280), (IvM_f23 (I := I33280) (A := A33280) hV33280), (IvM_f24 (I := I33280) (A := A33280) hV33280), (IvM_a11 (I := I33280) (A := A33280) hV33280), (IvM_a26 (I := I33280) (A := A33280) hV33280), (IvM_s8_0 (I := I33280) (A := A33280) hV33280), (IvM_s8_1 (I := I33280) (A := A33280) hV33280), (IvM_s10_0 (I := I33280) (A := A33280) hV33280), (IvM_s10_1 (I := I33280) (A := A33280) hV33280), (IvM_s17_0 (I := I33280) (A := A33280) hV33280), (IvM_s17_164 (I := I33280) (A := A33280) hV33280), (IvM_lv (I := I33280) (A := A33280) hV33280), (IvM_sd (I := I33280) (A := A33280) hV33280), (IvM_nq (I := I33280) (A := A33280) hV33280), (IvM_hr (I := I33280) (A := A33280) hV33280), (IvM_hh (I := I33280) (A := A33280) hV33280), trivial⟩ (by omega) (by omega) (by first | (rw [show (A33280 11 (5 * ((upd I33280 18 (A 11 (5 * (I 15) + z1).toNatClampNeg)) 15) + z2).toNatClampNeg) = (A 11 (5 * (I 15) + z2).toNatClampNeg) from (by rw [show (upd I33280 18 (A 11 (5 * (I 15) + z1).toNatClampNeg)) 15 = (I 15) from (hI33280 15 rfl)]; exact (congrFun (hA33280 11 rfl) _))] <;> omega) | omega)) (SP.same _) (fun _ h => h) (gi_V (List.mem_cons_of_mem _ (List.mem_append_left _ (List.mem_of_getElem? (i := 11) rfl))) (List.mem_cons_of_mem _ (List.mem_append_left _ (List.mem_of_getElem? (i := 12) rfl))) (List.mem_cons_of_mem _ (List.mem_append_left _ (List.mem_of_getElem? (i := 13) rfl))) (List.mem_cons_of_mem _ (List.mem_append_left _ (List.mem_of_getElem? (i := 3) rfl))) (gi_sub (fun w h => (List.mem_cons_of_mem _ (List.mem_append_right _ (List.mem_append_right _ (List.mem_append_right _ (List.mem_append_right _ (List.mem_append_right _ (List.mem_append_left _ h)))))))) zg_j172_X12_laysQuery)) rfl rfl rfl (by decide +kernel) ⟨Nat.le_of_ble_eq_true rfl, Nat.le_of_ble_eq_true rfl⟩ 0 rfl rfl rfl rfl (Nat.le_of_ble_eq_true rfl) ⟨Nat.le_of_ble_eq_true rfl, Nat.le_of_ble_eq_true rfl⟩ dX12_alike_49 (fun v ty' w' hp hk' => ?_)
        obtain ⟨I33286, A33286, L33286, hI33286, hA33286, hV33286, hL33286, hC, rfl, rfl⟩ := hp
        replace hF := FE.bdM hF hC
        show GW κ 3 0 0 (wM r g I33286 A33286 L33286) 52 [(0, .ref (r 0)), (1, .int z1), (2, .int z2)] []
        refine g_aload_n hk dX12_alike_52 rfl ?_
        refine g_aload_n hk dX12_alike_53 rfl ?_
        refine gM_i18 (v := (A 11 (5 * (I 15) + z1).toNatClampNeg)) hk hin12 (List.mem_cons_of_mem _ (List.mem_append_left _ (List.mem_of_getElem? (i := 10) rfl))) dX12_alike_54 (hI33286 18 rfl) ?_
        refine g_callV (n := 1) hk (j171_X12_changesBoth l D zt r g I33286 A33286 L33286 (A 11 (5 * (I 15) + z1).toNatClampNeg) hV33286 (by omega) (by omega)) (SP.same _) (fun _ h => h) (gi_V (List.mem_cons_of_mem _ (List.mem_append_left _ (List.mem_of_getElem? (i := 14) rfl))) (List.mem_cons_of_mem _ (List.mem_append_left _ (List.mem_of_getElem? (i := 15) rfl))) (List.mem_cons_of_mem _ (List.mem_append_left _ (List.mem_of_getElem? (i := 16) rfl))) (List.mem_cons_of_mem _ (List.mem_append_left _ (List.mem_of_getElem? (i := 3) rfl))) (gi_sub (fun w h => (List.mem_cons_of_mem _ (List.mem_append_right _ (List.mem_append_right _ (List.mem_append_right _ (List.mem_append_right _ (List.mem_append_right _ (List.mem_append_right _ (List.mem_append_left _ h))))))))) zg_j171_X12_changesBoth)) rfl rfl rfl (by decide +kernel) ⟨Nat.le_of_ble_eq_true rfl, Nat.le_of_ble_eq_true rfl⟩ 0 rfl rfl rfl rfl (Nat.le_of_ble_eq_true rfl) ⟨Nat.le_of_ble_eq_true rfl, Nat.le_of_ble_eq_true rfl⟩ dX12_alike_57 (fun v ty' w' hp hk' => ?_)
        obtain ⟨I33288, A33288, L33288, hI33288, hA33288, hV33288, hL33288, hC, rfl, rfl⟩ := hp
        replace hF := FE.bdM hF hC
        show GW κ 3 0 0 (wM r g I33288 A33288 L33288) 60 [(0, .ref (r 0)), (1, .int z1), (2, .int z2)] []
        refine g_aload_n hk dX12_alike_60 rfl ?_
        refine g_iload_n hk dX12_alike_61 rfl ?_
        refine g_callV (n := 1) hk (j172_X12_laysQuery l D zt r g I33288 A33288 L33288 z1 hV33288 (by omega) (by omega) (by first | (rw [show (A33288 11 (5 * (I33288 15) + z1).toNatClampNeg) = (A 11 (5 * (I 15) + z1).toNatClampNeg) from (by rw [show I33288 15 = (I 15) from ((hI33288 15 rfl).trans ((hI33286 15 rfl).trans (hI33280 15 rfl)))]; exact ((congrFun (hA33288 11 rfl) _).trans ((congrFun (hA33286 11 rfl) _).trans (congrFun (hA33280 11 rfl) _))))] <;> omega) | omega)) (SP.same _) (fun _ h => h) (gi_V (List.mem_cons_of_mem _ (List.mem_append_left _ (List.mem_of_getElem? (i := 11) rfl))) (List.mem_cons_of_mem _ (List.mem_append_left _ (List.mem_of_getElem? (i := 12) rfl))) (List.mem_cons_of_mem _ (List.mem_append_left _ (List.mem_of_getElem? (i := 13) rfl))) (List.mem_cons_of_mem _ (List.mem_append_left _ (List.mem_of_getElem? (i := 3) rfl))) (gi_sub (fun w h => (List.mem_cons_of_mem _ (List.mem_append_right _ (List.mem_append_right _ (List.mem_append_right _ (List.mem_append_right _ (List.mem_append_right _ (List.mem_append_left _ h)))))))) zg_j172_X12_laysQuery)) rfl rfl rfl (by decide +kernel) ⟨Nat.le_of_ble_eq_true rfl, Nat.le_of_ble_eq_true rfl⟩ 0 rfl rfl rfl rfl (Nat.le_of_ble_eq_true rfl) ⟨Nat.le_of_ble_eq_true rfl, Nat.le_of_ble_eq_true rfl⟩ dX12_alike_62 (fun v ty' w' hp hk' => ?_)
        obtain ⟨I33290, A33290, L33290, hI33290, hA33290, hV33290, hL33290, hC, rfl, rfl⟩ := hp
        replace hF := FE.bdM hF hC
        show GW κ 3 0 0 (wM r g I33290 A33290 L33290) 65 [(0, .ref (r 0)), (1, .int z1), (2, .int z2)] []
        refine g_aload_n hk dX12_alike_65 rfl ?_
        refine g_ldcw (v := 2000000000) hk (List.mem_cons_of_mem _ (List.mem_append_left _ (List.mem_of_getElem? (i := 17) rfl))) dX12_alike_66 ?_
        have k33291 : (2000000000 : Int32).toInt = 2000000000 := rfl
        refine g_callV (n := 1) hk (j173_X12_laysTable l D zt r g I33290 A33290 L33290 2000000000 hV33290) (SP.same _) (fun _ h => h) (gi_V (List.mem_cons_of_mem _ (List.mem_append_left _ (List.mem_of_getElem? (i := 18) rfl))) (List.mem_cons_of_mem _ (List.mem_append_left _ (List.mem_of_getElem? (i := 19) rfl))) (List.mem_cons_of_mem _ (List.mem_append_left _ (List.mem_of_getElem? (i := 20) rfl))) (List.mem_cons_of_mem _ (List.mem_append_left _ (List.mem_of_getElem? (i := 3) rfl))) (gi_sub (fun w h => (List.mem_cons_of_mem _ (List.mem_append_right _ (List.mem_append_right _ (List.mem_append_right _ (List.mem_append_right _ (List.mem_append_right _ (List.mem_append_right _ (List.mem_append_right _ (List.mem_append_left _ h)))))))))) zg_j173_X12_laysTable)) rfl rfl rfl (by decide +kernel) ⟨Nat.le_of_ble_eq_true rfl, Nat.le_of_ble_eq_true rfl⟩ 0 rfl rfl rfl rfl (Nat.le_of_ble_eq_true rfl) ⟨Nat.le_of_ble_eq_true rfl, Nat.le_of_ble_eq_true rfl⟩ dX12_alike_69 (fun v ty' w' hp hk' => ?_)
        obtain ⟨I33293, A33293, L33293, hI33293, hA33293, hV33293, y33292, hL33293, hC, rfl, rfl⟩ := hp
        replace hF := FE.bdM hF hC
        show GW κ 3 0 0 (wM r g I33293 A33293 L33293) 72 [(0, .ref (r 0)), (1, .int z1), (2, .int z2)] [.int y33292]
        have b33294l := Int32.le_toInt y33292
        have b33294h := Int32.toInt_lt y33292
        exact g_iret hk hR rfl ⟨I33293, A33293, L33293, (show Md [18, 19, 20] I I33293 from (Md.tr (Md.tr (Md.tr (Md.tr (Md.up (Md.tr Md.rf hI33280 rfl) rfl) hI33286 rfl) hI33288 rfl) hI33290 rfl) hI33293 rfl)), (show Md [18, 19, 20, 21] A A33293 from (Md.tr (Md.tr (Md.tr (Md.tr (Md.tr Md.rf hA33280 rfl) hA33286 rfl) hA33288 rfl) hA33290 rfl) hA33293 rfl)), hV33293, y33292, (show L33293 = L from (hL33293.trans (hL33290.trans (hL33288.trans (hL33286.trans hL33280))))), hF, rfl, rfl⟩ dX12_alike_72
      · skip
        replace hF := FE.neg hF c33278
        refine g_bipush (v := (-2)) hk dX12_alike_31 (by decide) ?_
        exact g_iret hk hR rfl ⟨I, A, L, (show Md [18, 19, 20] I I from Md.rf), (show Md [18, 19, 20, 21] A A from Md.rf), hIv, (-2), (show L = L from rfl), hF, rfl, rfl⟩ dX12_alike_33
noncomputable def fM12_laysWindows (I : Nat → Int32) (A : Nat → Nat → Int32) (L : Nat → Nat → Int64) (z1 : Int32) (z2 : Int32) (z3 : Int32) : Int32 × (Nat → Int32) × (Nat → Nat → Int32) × (Nat → Nat → Int64) := f_bdM (fM12_laysWindow (upd I 18 z3) A L z2 z3) fun _ I33353 A33353 L33353 => f_bdM (fM12_changesBoth I33353 A33353 L33353 z3) fun _ I33355 A33355 L33355 => f_bdM (fM12_laysWindow I33355 A33355 L33355 z1 z3) fun _ I33357 A33357 L33357 => (0, I33357, A33357, L33357)
def wo_j200_X12_laysWindows : List Cond := [Cond.fieldLink RX12 267 "WarpDeskModel" "wide" "I", Cond.methodLink RX12 270 yX12_laysWindow, Cond.instanceMethod yX12_laysWindow, Cond.selects RX12 yX12_laysWindow yX12_laysWindow, Cond.initialized RX12, Cond.methodLink RX12 273 yX12_changesBoth, Cond.instanceMethod yX12_changesBoth, Cond.selects RX12 yX12_changesBoth yX12_changesBoth]
def wz_j200_X12_laysWindows : List Cond := .code yX12_laysWindows cX12_laysWindows 4 none :: (wo_j200_X12_laysWindows ++ (wsX120 ++ (wz_j165_X12_laysWindow ++ (wz_j171_X12_changesBoth ++ ([] : List Cond)))))
theorem zg_j200_X12_laysWindows : ∀ w ∈ wz_j200_X12_laysWindows, goodWord w = true := zg_cons rfl (zg_app (by decide +kernel) (zg_app zgU_wsX120 (zg_app zg_j165_X12_laysWindow (zg_app zg_j171_X12_changesBoth zg_nil))))
theorem zi_j200_X12_laysWindows : ∀ w ∈ wz_j200_X12_laysWindows, w ∈ lw_tbl := zi_cons zw_1926 (zi_app (zi_cons zw_1415 (zi_cons zw_1735 (zi_cons zw_1737 (zi_cons zw_76 (zi_cons zw_115 (zi_cons zw_1767 (zi_cons zw_1769 (zi_cons zw_81 zi_nil)))))))) (zi_app inX12 (zi_app zi_j165_X12_laysWindow (zi_app zi_j171_X12_changesBoth zi_nil))))
set_option maxHeartbeats 4000000 in
set_option maxRecDepth 100000 in
theorem j200_X12_laysWindows (l : Launch) (D : va_G) (zt : Nat × Nat × Nat × (Nat → Nat) × (Nat → Nat)) (r : Nat → Nat) (g : Nat → ClassId) (I : Nat → Int32) (A : Nat → Nat → Int32) (L : Nat → Nat → Int64) (z1 : Int32) (z2 : Int32) (z3 : Int32) (hIv : IvM I A) (hp0 : 0 ≤ z1.toInt) (hp1 : z1.toInt ≤ 159) (hp2 : 0 ≤ z2.toInt) (hp3 : z2.toInt ≤ 159) (hp4 : 1 ≤ z3.toInt) (hp5 : z3.toInt ≤ 16) (hp6 : z1.toInt + z3.toInt ≤ 160) (hp7 : z2.toInt + z3.toInt ≤ 160) : GM l D zt (tyM g) yX12_laysWindows wz_j200_X12_laysWindows ({ frames := 3, cells := 0, slots := 0, locals := 72 } : Room) [.ref (r 0), .int z1, .int z2, .int z3] (wM r g I A L) (fun v _ w' => ∃ (I' : Nat → Int32) (A' : Nat → Nat → Int32) (L' : Nat → Nat → Int64), Md [18] I I' ∧ Md [19, 20] A A' ∧ IvM I' A' ∧ (1 ≤ (I' 18).toInt) ∧ (L' = L) ∧ FE (fM12_laysWindows I A L z1 z2 z3) (0, I', A', L') ∧ v = none ∧ w' = wM r g I' A' L') 0 0 := by
  refine GM.of (cc := cX12_laysWindows) (maxL := 4) (ret := none) (own := RX12) (lv := [(0, .ref (r 0)), (1, .int z1), (2, .int z2), (3, .int z3)]) (by decide) rfl rfl (Nat.le_of_ble_eq_true rfl) rfl (fun κ sz hk hR hN => ?_)
  have hin12 : ∀ w ∈ u_ws RX12 TX12 55, w ∈ wz_j200_X12_laysWindows := fun w h => (List.mem_cons_of_mem _ (List.mem_append_right _ (List.mem_append_left _ h)))
  have hF : FE (fM12_laysWindows I A L z1 z2 z3) (fM12_laysWindows I A L z1 z2 z3) := FE.rf
  refine g_aload_n hk dX12_laysWindows_0 rfl ?_
  refine g_iload_n hk dX12_laysWindows_1 rfl ?_
  refine pM_i18 hk hin12 (List.mem_cons_of_mem _ (List.mem_append_left _ (List.mem_of_getElem? (i := 0) rfl))) dX12_laysWindows_2 ?_
  refine g_aload_n hk dX12_laysWindows_5 rfl ?_
  refine g_iload_n hk dX12_laysWindows_6 rfl ?_
  refine g_iload_n hk dX12_laysWindows_7 rfl ?_
  refine g_callV (n := 2) hk (j165_X12_laysWindow l D zt r g (upd I 18 z3) A L z2 z3 ⟨(IvM_f1 (I := I) (A := A) hIv), (IvM_f2 (I := I) (A := A) hIv), (IvM_f3 (I := I) (A := A) hIv), (IvM_f4 (I := I) (A := A) hIv), (IvM_f6 (I := I) (A := A) hIv), (IvM_f8 (I := I) (A := A) hIv), (IvM_f15 (I := I) (A := A) hIv), (IvM_f16 (I := I) (A := A) hIv), (IvM_f17 (I := I) (A := A) hIv), (show 0 ≤ z3.toInt ∧ z3.toInt ≤ 16 from ⟨by omega, by omega⟩), (IvM_f22 (I := I) (A := A) hIv), (IvM_f23 (I := I) (A := A) hIv), (IvM_f24 (I := I) (A := A) hIv), (IvM_a11 (I := I) (A := A) hIv), (IvM_a26 (I := I) (A := A) hIv), (IvM_s8_0 (I := I) (A := A) hIv), (IvM_s8_1 (I := I) (A := A) hIv), (IvM_s10_0 (I := I) (A := A) hIv), (IvM_s10_1 (I := I) (A := A) hIv), (IvM_s17_0 (I := I) (A := A) hIv), (IvM_s17_164 (I := I) (A := A) hIv), (IvM_lv (I := I) (A := A) hIv), (IvM_sd (I := I) (A := A) hIv), (IvM_nq (I := I) (A := A) hIv), (IvM_hr (I := I) (A := A) hIv), (IvM_hh (I := I) (A := A) hIv), trivial⟩ (by omega) (by omega) (by omega) (by omega) (by omega)) (SP.same _) (fun _ h => h) (gi_V (List.mem_cons_of_mem _ (List.mem_append_left _ (List.mem_of_getElem? (i := 1) rfl))) (List.mem_cons_of_mem _ (List.mem_append_left _ (List.mem_of_getElem? (i := 2) rfl))) (List.mem_cons_of_mem _ (List.mem_append_left _ (List.mem_of_getElem? (i := 3) rfl))) (List.mem_cons_of_mem _ (List.mem_append_left _ (List.mem_of_getElem? (i := 4) rfl))) (gi_sub (fun w h => (List.mem_cons_of_mem _ (List.mem_append_right _ (List.mem_append_right _ (List.mem_append_left _ h))))) zg_j165_X12_laysWindow)) rfl rfl rfl (by decide +kernel) ⟨Nat.le_of_ble_eq_true rfl, Nat.le_of_ble_eq_true rfl⟩ 0 rfl rfl rfl rfl (Nat.le_of_ble_eq_true rfl) ⟨Nat.le_of_ble_eq_true rfl, Nat.le_of_ble_eq_true rfl⟩ dX12_laysWindows_8 (fun v ty' w' hp hk' => ?_)
  obtain ⟨I33353, A33353, L33353, hI33353, hA33353, hV33353, hL33353, hC, rfl, rfl⟩ := hp
  replace hF := FE.bdM hF hC
  show GW κ 4 0 0 (wM r g I33353 A33353 L33353) 11 [(0, .ref (r 0)), (1, .int z1), (2, .int z2), (3, .int z3)] []
  refine g_aload_n hk dX12_laysWindows_11 rfl ?_
  refine g_iload_n hk dX12_laysWindows_12 rfl ?_
  refine g_callV (n := 1) hk (j171_X12_changesBoth l D zt r g I33353 A33353 L33353 z3 hV33353 (by omega) (by omega)) (SP.same _) (fun _ h => h) (gi_V (List.mem_cons_of_mem _ (List.mem_append_left _ (List.mem_of_getElem? (i := 5) rfl))) (List.mem_cons_of_mem _ (List.mem_append_left _ (List.mem_of_getElem? (i := 6) rfl))) (List.mem_cons_of_mem _ (List.mem_append_left _ (List.mem_of_getElem? (i := 7) rfl))) (List.mem_cons_of_mem _ (List.mem_append_left _ (List.mem_of_getElem? (i := 4) rfl))) (gi_sub (fun w h => (List.mem_cons_of_mem _ (List.mem_append_right _ (List.mem_append_right _ (List.mem_append_right _ (List.mem_append_left _ h)))))) zg_j171_X12_changesBoth)) rfl rfl rfl (by decide +kernel) ⟨Nat.le_of_ble_eq_true rfl, Nat.le_of_ble_eq_true rfl⟩ 0 rfl rfl rfl rfl (Nat.le_of_ble_eq_true rfl) ⟨Nat.le_of_ble_eq_true rfl, Nat.le_of_ble_eq_true rfl⟩ dX12_laysWindows_13 (fun v ty' w' hp hk' => ?_)
  obtain ⟨I33355, A33355, L33355, hI33355, hA33355, hV33355, hL33355, hC, rfl, rfl⟩ := hp
  replace hF := FE.bdM hF hC
  show GW κ 4 0 0 (wM r g I33355 A33355 L33355) 16 [(0, .ref (r 0)), (1, .int z1), (2, .int z2), (3, .int z3)] []
  refine g_aload_n hk dX12_laysWindows_16 rfl ?_
  refine g_iload_n hk dX12_laysWindows_17 rfl ?_
  refine g_iload_n hk dX12_laysWindows_18 rfl ?_
  refine g_callV (n := 2) hk (j165_X12_laysWindow l D zt r g I33355 A33355 L33355 z1 z3 hV33355 (by omega) (by omega) (by omega) (by omega) (by omega)) (SP.same _) (fun _ h => h) (gi_V (List.mem_cons_of_mem _ (List.mem_append_left _ (List.mem_of_getElem? (i := 1) rfl))) (List.mem_cons_of_mem _ (List.mem_append_left _ (List.mem_of_getElem? (i := 2) rfl))) (List.mem_cons_of_mem _ (List.mem_append_left _ (List.mem_of_getElem? (i := 3) rfl))) (List.mem_cons_of_mem _ (List.mem_append_left _ (List.mem_of_getElem? (i := 4) rfl))) (gi_sub (fun w h => (List.mem_cons_of_mem _ (List.mem_append_right _ (List.mem_append_right _ (List.mem_append_left _ h))))) zg_j165_X12_laysWindow)) rfl rfl rfl (by decide +kernel) ⟨Nat.le_of_ble_eq_true rfl, Nat.le_of_ble_eq_true rfl⟩ 0 rfl rfl rfl rfl (Nat.le_of_ble_eq_true rfl) ⟨Nat.le_of_ble_eq_true rfl, Nat.le_of_ble_eq_true rfl⟩ dX12_laysWindows_19 (fun v ty' w' hp hk' => ?_)
  obtain ⟨I33357, A33357, L33357, hI33357, hA33357, hV33357, hL33357, hC, rfl, rfl⟩ := hp
  replace hF := FE.bdM hF hC
  show GW κ 4 0 0 (wM r g I33357 A33357 L33357) 22 [(0, .ref (r 0)), (1, .int z1), (2, .int z2), (3, .int z3)] []
  exact g_vret hk hR ⟨I33357, A33357, L33357, (show Md [18] I I33357 from (Md.tr (Md.tr (Md.tr (Md.up Md.rf rfl) hI33353 rfl) hI33355 rfl) hI33357 rfl)), (show Md [19, 20] A A33357 from (Md.tr (Md.tr (Md.tr Md.rf hA33353 rfl) hA33355 rfl) hA33357 rfl)), hV33357, (by rw [show (I33357 18) = z3 from ((hI33357 18 rfl).trans ((hI33355 18 rfl).trans (hI33353 18 rfl)))] <;> omega), (show L33357 = L from (hL33357.trans (hL33355.trans hL33353))), hF, rfl, rfl⟩ dX12_laysWindows_22
noncomputable def bM12_nearOf_12 (A : Nat → Nat → Int32) (z1 : Int32) (z2 : Int32) : (Int32 → Int32 → (Nat → Int32) → (Nat → Nat → Int32) → (Nat → Nat → Int64) → (Int32 × (Nat → Int32) × (Nat → Nat → Int32) × (Nat → Nat → Int64))) → Int32 → Int32 → (Nat → Int32) → (Nat → Nat → Int32) → (Nat → Nat → Int64) → (Int32 × (Nat → Int32) × (Nat → Nat → Int32) × (Nat → Nat → Int64)) := fun kk33514 x33326 x33327 I33331 A33331 L33331 => if (A 17 0).toInt ≤ x33326.toInt then (x33327, I33331, A33331, L33331) else f_lt (x33326 - z1) fun y33518 => f_lt ((1 : Int32) - z2) fun y33519 => f_lt (z2 - (1 : Int32)) fun y33520 => if fM12_in I33331 A33331 L33331 y33518 y33519 y33520 = 0 then if fM12_isWindow I33331 A33331 L33331 x33326 z2 = 0 then f_lt (x33326 + Int32.ofInt 1) fun y33535 => kk33514 y33535 x33327 I33331 A33331 L33331 else f_bdM (fM12_laysWindows I33331 A33331 L33331 z1 x33326 z2) fun _ I33537 A33537 L33537 => f_bdM (fM12_laysTable I33537 A33537 L33537 2000000000) fun y33541 I33542 A33542 L33542 => if x33327.toInt < 0 then f_lt (x33326 + Int32.ofInt 1) fun y33544 => kk33514 y33544 x33326 (upd I33542 25 y33541) A33542 L33542 else if y33541.toInt < (I33331 25).toInt then f_lt (x33326 + Int32.ofInt 1) fun y33548 => kk33514 y33548 x33326 (upd I33542 25 y33541) A33542 L33542 else f_lt (x33326 + Int32.ofInt 1) fun y33549 => kk33514 y33549 x33327 I33542 A33542 L33542 else f_lt (x33326 + Int32.ofInt 1) fun y33550 => kk33514 y33550 x33327 I33331 A33331 L33331
noncomputable def fM12_nearOf (I : Nat → Int32) (A : Nat → Nat → Int32) (L : Nat → Nat → Int64) (z1 : Int32) (z2 : Int32) : Int32 × (Nat → Int32) × (Nat → Nat → Int32) × (Nat → Nat → Int64) := itr_iiIAL dfM (bM12_nearOf_12 A z1 z2) FU 0 (-2) (upd I 25 (-2)) A L
def wo_j199_X12_nearOf : List Cond := [Cond.fieldLink RX12 381 "WarpDeskModel" "nearFar" "I", Cond.fieldLink RX12 70 "WarpDeskModel" "now" "[I", Cond.methodLink RX12 244 yX12_in, Cond.static yX12_in, Cond.initialized RX12, Cond.methodLink RX12 257 yX12_isWindow, Cond.instanceMethod yX12_isWindow, Cond.selects RX12 yX12_isWindow yX12_isWindow, Cond.methodLink RX12 384 yX12_laysWindows, Cond.instanceMethod yX12_laysWindows, Cond.selects RX12 yX12_laysWindows yX12_laysWindows, Cond.constant RX12 282 (2000000000), Cond.methodLink RX12 304 yX12_laysTable, Cond.instanceMethod yX12_laysTable, Cond.selects RX12 yX12_laysTable yX12_laysTable]
def wz_j199_X12_nearOf : List Cond := .code yX12_nearOf cX12_nearOf 6 (some .int) :: (wo_j199_X12_nearOf ++ (wsX120 ++ (wz_j145_X12_in ++ (wz_j160_X12_isWindow ++ (wz_j200_X12_laysWindows ++ (wz_j173_X12_laysTable ++ ([] : List Cond)))))))
theorem zg_j199_X12_nearOf : ∀ w ∈ wz_j199_X12_nearOf, goodWord w = true := zg_cons rfl (zg_app (by decide +kernel) (zg_app zgU_wsX120 (zg_app zg_j145_X12_in (zg_app zg_j160_X12_isWindow (zg_app zg_j200_X12_laysWindows (zg_app zg_j173_X12_laysTable zg_nil))))))
theorem zi_j199_X12_nearOf : ∀ w ∈ wz_j199_X12_nearOf, w ∈ lw_tbl := zi_cons zw_1922 (zi_app (zi_cons zw_1430 (zi_cons zw_1413 (zi_cons zw_1656 (zi_cons zw_1657 (zi_cons zw_115 (zi_cons zw_1714 (zi_cons zw_1716 (zi_cons zw_72 (zi_cons zw_1923 (zi_cons zw_1925 (zi_cons zw_100 (zi_cons zw_1775 (zi_cons zw_1776 (zi_cons zw_1778 (zi_cons zw_83 zi_nil))))))))))))))) (zi_app inX12 (zi_app zi_j145_X12_in (zi_app zi_j160_X12_isWindow (zi_app zi_j200_X12_laysWindows (zi_app zi_j173_X12_laysTable zi_nil))))))
set_option maxHeartbeats 4000000 in
set_option maxRecDepth 100000 in
theorem j199_X12_nearOf (l : Launch) (D : va_G) (zt : Nat × Nat × Nat × (Nat → Nat) × (Nat → Nat)) (r : Nat → Nat) (g : Nat → ClassId) (I : Nat → Int32) (A : Nat → Nat → Int32) (L : Nat → Nat → Int64) (z1 : Int32) (z2 : Int32) (hIv : IvM I A) (hp0 : 0 ≤ z1.toInt) (hp1 : z1.toInt ≤ 159) (hp2 : 2 ≤ z2.toInt) (hp3 : z2.toInt ≤ 16) (hp4 : z1.toInt + z2.toInt ≤ 160) : GM l D zt (tyM g) yX12_nearOf wz_j199_X12_nearOf ({ frames := 5, cells := 0, slots := 0, locals := 112 } : Room) [.ref (r 0), .int z1, .int z2] (wM r g I A L) (fun v _ w' => ∃ (I' : Nat → Int32) (A' : Nat → Nat → Int32) (L' : Nat → Nat → Int64), Md [18, 19, 20, 25] I I' ∧ Md [19, 20, 21] A A' ∧ IvM I' A' ∧ ∃ y0 : Int32, (L' = L) ∧ ((-2) ≤ y0.toInt) ∧ (y0.toInt ≤ 159) ∧ FE (fM12_nearOf I A L z1 z2) (y0, I', A', L') ∧ v = some (.int y0) ∧ w' = wM r g I' A' L') 0 0 := by
  refine GM.of (cc := cX12_nearOf) (maxL := 6) (ret := (some .int)) (own := RX12) (lv := [(0, .ref (r 0)), (1, .int z1), (2, .int z2)]) (by decide) rfl rfl (Nat.le_of_ble_eq_true rfl) rfl (fun κ sz hk hR hN => ?_)
  have hin12 : ∀ w ∈ u_ws RX12 TX12 55, w ∈ wz_j199_X12_nearOf := fun w h => (List.mem_cons_of_mem _ (List.mem_append_right _ (List.mem_append_left _ h)))
  have hF : FE (fM12_nearOf I A L z1 z2) (fM12_nearOf I A L z1 z2) := FE.rf
  refine g_bipush (v := (-2)) hk dX12_nearOf_0 (by decide) ?_
  refine g_istore_n (lv' := [(3, .int (-2)), (0, .ref (r 0)), (1, .int z1), (2, .int z2)]) hk dX12_nearOf_2 (by decide) rfl ?_
  refine g_aload_n hk dX12_nearOf_3 rfl ?_
  refine g_bipush (v := (-2)) hk dX12_nearOf_4 (by decide) ?_
  refine pM_i25 hk hin12 (List.mem_cons_of_mem _ (List.mem_append_left _ (List.mem_of_getElem? (i := 0) rfl))) dX12_nearOf_6 ?_
  refine g_iconst (v := 0) hk dX12_nearOf_9 (by decide) ?_
  refine g_istore (lv' := [(4, .int 0), (3, .int (-2)), (0, .ref (r 0)), (1, .int z1), (2, .int z2)]) hk dX12_nearOf_10 (by decide) rfl ?_
  have lp33511 : ∀ (n33512 : Nat) (x33326 : Int32) (x33327 : Int32) (I33331 : Nat → Int32) (A33331 : Nat → Nat → Int32) (L33331 : Nat → Nat → Int64), (Md [18, 19, 20, 25] (upd I 25 (-2)) I33331) → (Md [19, 20, 21] A A33331) → (IvM I33331 A33331) → (L33331 = L) → (0 ≤ x33326.toInt) → (x33326.toInt ≤ 160) → ((-2) ≤ x33327.toInt) → (x33327.toInt ≤ 159) → (161 - x33326.toInt < (n33512 : Int)) → (0 < n33512) → (FE (fM12_nearOf I A L z1 z2) (itr_iiIAL dfM (bM12_nearOf_12 A z1 z2) n33512 x33326 x33327 I33331 A33331 L33331)) → GW κ 6 0 0 (wM r g I33331 A33331 L33331) 12 [(4, .int x33326), (3, .int x33327), (0, .ref (r 0)), (1, .int z1), (2, .int z2)] [] := by
    intro n33512
    induction n33512 with
    | zero =>
      intro x33326 x33327 I33331 A33331 L33331 hI33331 hA33331 hV33331 hL33331 h33507 h33508 h33509 h33510 m33513 m33513z hF
      exact absurd m33513z (Nat.lt_irrefl 0)
    | succ n33512 ih33515 =>
      intro x33326 x33327 I33331 A33331 L33331 hI33331 hA33331 hV33331 hL33331 h33507 h33508 h33509 h33510 m33513 m33513z hF
      replace hF := FE.itr_iiIAL hF
      refine g_iload hk dX12_nearOf_12 rfl ?_
      refine g_aload_n hk dX12_nearOf_14 rfl ?_
      refine gM_r0_35 hk hin12 (List.mem_cons_of_mem _ (List.mem_append_left _ (List.mem_of_getElem? (i := 1) rfl))) dX12_nearOf_15 ?_
      refine g_iconst (v := 0) hk dX12_nearOf_18 (by decide) ?_
      refine lM_17 (v := (A 17 0)) hk (vp_in_iff.mpr ⟨by decide, by decide⟩) (congrFun (hA33331 17 rfl) _) dX12_nearOf_19 ?_
      have f33516 := IvM_s17_0 hIv
      refine g_icmp_ge (tgt := 100) (a := x33326.toInt) (b := (A 17 0).toInt) hk dX12_nearOf_20 (by decide) rfl rfl (fun c33517 => ?_) (fun c33517 => ?_)
      · skip
        replace hF := FE.pos hF c33517
        refine g_iload_n hk dX12_nearOf_100 rfl ?_
        exact g_iret hk hR rfl ⟨I33331, A33331, L33331, (show Md [18, 19, 20, 25] I I33331 from (Md.tr (Md.up Md.rf rfl) hI33331 rfl)), (show Md [19, 20, 21] A A33331 from (Md.tr Md.rf hA33331 rfl)), hV33331, x33327, (show L33331 = L from hL33331), (by omega), (by omega), hF, rfl, rfl⟩ dX12_nearOf_101
      · skip
        replace hF := FE.neg hF c33517
        refine g_iload hk dX12_nearOf_23 rfl ?_
        refine g_iload_n hk dX12_nearOf_25 rfl ?_
        refine g_isub hk dX12_nearOf_26 ?_
        refine g_topi (fun y33518 ey33518 => ?_)
        replace hF := FE.lt hF ey33518
        have hy33518 : y33518.toInt = x33326.toInt - z1.toInt := i32_sub ey33518 rfl rfl (by omega) (by omega)
        refine g_iconst (v := 1) hk dX12_nearOf_27 (by decide) ?_
        refine g_iload_n hk dX12_nearOf_28 rfl ?_
        refine g_isub hk dX12_nearOf_29 ?_
        refine g_topi (fun y33519 ey33519 => ?_)
        replace hF := FE.lt hF ey33519
        have hy33519 : y33519.toInt = 1 - z2.toInt := i32_sub ey33519 rfl rfl (by omega) (by omega)
        refine g_iload_n hk dX12_nearOf_30 rfl ?_
        refine g_iconst (v := 1) hk dX12_nearOf_31 (by decide) ?_
        refine g_isub hk dX12_nearOf_32 ?_
        refine g_topi (fun y33520 ey33520 => ?_)
        replace hF := FE.lt hF ey33520
        have hy33520 : y33520.toInt = z2.toInt - 1 := i32_sub ey33520 rfl rfl (by omega) (by omega)
        refine g_callS (n := 3) hk (j145_X12_in l D zt r g I33331 A33331 L33331 y33518 y33519 y33520 hV33331) (SP.same _) (fun _ h => h) (gi_S (List.mem_cons_of_mem _ (List.mem_append_left _ (List.mem_of_getElem? (i := 2) rfl))) (List.mem_cons_of_mem _ (List.mem_append_left _ (List.mem_of_getElem? (i := 3) rfl))) (List.mem_cons_of_mem _ (List.mem_append_left _ (List.mem_of_getElem? (i := 4) rfl))) (gi_sub (fun w h => (List.mem_cons_of_mem _ (List.mem_append_right _ (List.mem_append_right _ (List.mem_append_left _ h))))) zg_j145_X12_in)) rfl rfl rfl (by decide +kernel) ⟨Nat.le_of_ble_eq_true rfl, Nat.le_of_ble_eq_true rfl⟩ rfl rfl (Nat.le_of_ble_eq_true rfl) ⟨Nat.le_of_ble_eq_true rfl, Nat.le_of_ble_eq_true rfl⟩ dX12_nearOf_33 (fun v ty' w' hp hk' => ?_)
        rcases hp with ⟨c33521, hC, rfl, rfl⟩ | ⟨c33523, c33524, hC, rfl, rfl⟩
        · skip
          replace hF := FE.pos hF hC
          show GW κ 6 0 0 (wM r g I33331 A33331 L33331) 36 [(4, .int x33326), (3, .int x33327), (0, .ref (r 0)), (1, .int z1), (2, .int z2)] [.int 0]
          refine g_if_ne (tgt := 94) (a := 0) hk dX12_nearOf_36 (by decide) rfl (fun z9 => absurd z9 (show ¬ ((0 : Int) ≠ (0 : Int)) from by decide)) (fun _ => ?_)
          refine g_aload_n hk dX12_nearOf_39 rfl ?_
          refine g_iload hk dX12_nearOf_40 rfl ?_
          refine g_iload_n hk dX12_nearOf_42 rfl ?_
          refine g_callV (n := 2) hk (j160_X12_isWindow l D zt r g I33331 A33331 L33331 x33326 z2 hV33331) (SP.same _) (fun _ h => h) (gi_V (List.mem_cons_of_mem _ (List.mem_append_left _ (List.mem_of_getElem? (i := 5) rfl))) (List.mem_cons_of_mem _ (List.mem_append_left _ (List.mem_of_getElem? (i := 6) rfl))) (List.mem_cons_of_mem _ (List.mem_append_left _ (List.mem_of_getElem? (i := 7) rfl))) (List.mem_cons_of_mem _ (List.mem_append_left _ (List.mem_of_getElem? (i := 4) rfl))) (gi_sub (fun w h => (List.mem_cons_of_mem _ (List.mem_append_right _ (List.mem_append_right _ (List.mem_append_right _ (List.mem_append_left _ h)))))) zg_j160_X12_isWindow)) rfl rfl rfl (by decide +kernel) ⟨Nat.le_of_ble_eq_true rfl, Nat.le_of_ble_eq_true rfl⟩ 0 rfl rfl rfl rfl (Nat.le_of_ble_eq_true rfl) ⟨Nat.le_of_ble_eq_true rfl, Nat.le_of_ble_eq_true rfl⟩ dX12_nearOf_43 (fun v ty' w' hp hk' => ?_)
          rcases hp with ⟨hC, rfl, rfl⟩ | ⟨c33527, c33528, c33529, c33530, c33531, c33532, c33533, hC, rfl, rfl⟩
          · skip
            replace hF := FE.pos hF hC
            show GW κ 6 0 0 (wM r g I33331 A33331 L33331) 46 [(4, .int x33326), (3, .int x33327), (0, .ref (r 0)), (1, .int z1), (2, .int z2)] [.int 0]
            refine g_if_ne (tgt := 52) (a := 0) hk dX12_nearOf_46 (by decide) rfl (fun z9 => absurd z9 (show ¬ ((0 : Int) ≠ (0 : Int)) from by decide)) (fun _ => ?_)
            refine g_goto (tgt := 94) hk dX12_nearOf_49 (by decide) ?_
            obtain ⟨y33535, ey33535⟩ : ∃ y : Int32, y = x33326 + Int32.ofInt 1 := ⟨_, rfl⟩
            replace hF := FE.lt hF ey33535
            have hy33535 : y33535.toInt = x33326.toInt + 1 := i32_add ey33535 rfl (by decide) (by omega) (by omega)
            refine g_iinc (v := y33535) (lv' := [(4, .int y33535), (3, .int x33327), (0, .ref (r 0)), (1, .int z1), (2, .int z2)]) hk 0 dX12_nearOf_94 rfl ey33535.symm (by decide) rfl ?_
            refine g_goto (tgt := 12) hk dX12_nearOf_97 (by decide) ?_
            exact g_lv (List.forall_mem_cons.mpr ⟨List.mem_of_getElem? (i := 0) rfl, (List.forall_mem_cons.mpr ⟨List.mem_of_getElem? (i := 1) rfl, (List.forall_mem_cons.mpr ⟨List.mem_of_getElem? (i := 2) rfl, (List.forall_mem_cons.mpr ⟨List.mem_of_getElem? (i := 3) rfl, (List.forall_mem_cons.mpr ⟨List.mem_of_getElem? (i := 4) rfl, (fun _ h => absurd h List.not_mem_nil)⟩)⟩)⟩)⟩)⟩) (ih33515 y33535 x33327 I33331 A33331 L33331 (show Md [18, 19, 20, 25] (upd I 25 (-2)) I33331 from Md.tr hI33331 (show Md [18, 19, 20, 25] I33331 I33331 from Md.rf) rfl) (show Md [19, 20, 21] A A33331 from Md.tr hA33331 (show Md [19, 20, 21] A33331 A33331 from Md.rf) rfl) hV33331 (show L33331 = L from hL33331) (by omega) (by omega) (by omega) (by omega) (by omega) (by omega) hF)
          · skip
            replace hF := FE.neg hF (fe_ne hC (by decide))
            show GW κ 6 0 0 (wM r g I33331 A33331 L33331) 46 [(4, .int x33326), (3, .int x33327), (0, .ref (r 0)), (1, .int z1), (2, .int z2)] [.int 1]
            refine g_if_ne (tgt := 52) (a := 1) hk dX12_nearOf_46 (by decide) rfl (fun _ => ?_) (fun z9 => absurd (show (1 : Int) ≠ (0 : Int) from by decide) z9)
            refine g_aload_n hk dX12_nearOf_52 rfl ?_
            refine g_iload_n hk dX12_nearOf_53 rfl ?_
            refine g_iload hk dX12_nearOf_54 rfl ?_
            refine g_iload_n hk dX12_nearOf_56 rfl ?_
            refine g_callV (n := 3) hk (j200_X12_laysWindows l D zt r g I33331 A33331 L33331 z1 x33326 z2 hV33331 (by omega) (by omega) (by omega) (by omega) (by omega) (by omega) (by omega) (by omega)) (SP.same _) (fun _ h => h) (gi_V (List.mem_cons_of_mem _ (List.mem_append_left _ (List.mem_of_getElem? (i := 8) rfl))) (List.mem_cons_of_mem _ (List.mem_append_left _ (List.mem_of_getElem? (i := 9) rfl))) (List.mem_cons_of_mem _ (List.mem_append_left _ (List.mem_of_getElem? (i := 10) rfl))) (List.mem_cons_of_mem _ (List.mem_append_left _ (List.mem_of_getElem? (i := 4) rfl))) (gi_sub (fun w h => (List.mem_cons_of_mem _ (List.mem_append_right _ (List.mem_append_right _ (List.mem_append_right _ (List.mem_append_right _ (List.mem_append_left _ h))))))) zg_j200_X12_laysWindows)) rfl rfl rfl (by decide +kernel) ⟨Nat.le_of_ble_eq_true rfl, Nat.le_of_ble_eq_true rfl⟩ 0 rfl rfl rfl rfl (Nat.le_of_ble_eq_true rfl) ⟨Nat.le_of_ble_eq_true rfl, Nat.le_of_ble_eq_true rfl⟩ dX12_nearOf_57 (fun v ty' w' hp hk' => ?_)
            obtain ⟨I33537, A33537, L33537, hI33537, hA33537, hV33537, r33538, hL33537, hC, rfl, rfl⟩ := hp
            replace hF := FE.bdM hF hC
            have f33539 := IvM_f18 hV33537
            show GW κ 6 0 0 (wM r g I33537 A33537 L33537) 60 [(4, .int x33326), (3, .int x33327), (0, .ref (r 0)), (1, .int z1), (2, .int z2)] []
            refine g_aload_n hk dX12_nearOf_60 rfl ?_
            refine g_ldcw (v := 2000000000) hk (List.mem_cons_of_mem _ (List.mem_append_left _ (List.mem_of_getElem? (i := 11) rfl))) dX12_nearOf_61 ?_
            have k33540 : (2000000000 : Int32).toInt = 2000000000 := rfl
            refine g_callV (n := 1) hk (j173_X12_laysTable l D zt r g I33537 A33537 L33537 2000000000 hV33537) (SP.same _) (fun _ h => h) (gi_V (List.mem_cons_of_mem _ (List.mem_append_left _ (List.mem_of_getElem? (i := 12) rfl))) (List.mem_cons_of_mem _ (List.mem_append_left _ (List.mem_of_getElem? (i := 13) rfl))) (List.mem_cons_of_mem _ (List.mem_append_left _ (List.mem_of_getElem? (i := 14) rfl))) (List.mem_cons_of_mem _ (List.mem_append_left _ (List.mem_of_getElem? (i := 4) rfl))) (gi_sub (fun w h => (List.mem_cons_of_mem _ (List.mem_append_right _ (List.mem_append_right _ (List.mem_append_right _ (List.mem_append_right _ (List.mem_append_right _ (List.mem_append_left _ h)))))))) zg_j173_X12_laysTable)) rfl rfl rfl (by decide +kernel) ⟨Nat.le_of_ble_eq_true rfl, Nat.le_of_ble_eq_true rfl⟩ 0 rfl rfl rfl rfl (Nat.le_of_ble_eq_true rfl) ⟨Nat.le_of_ble_eq_true rfl, Nat.le_of_ble_eq_true rfl⟩ dX12_nearOf_64 (fun v ty' w' hp hk' => ?_)
            obtain ⟨I33542, A33542, L33542, hI33542, hA33542, hV33542, y33541, hL33542, hC, rfl, rfl⟩ := hp
            replace hF := FE.bdM hF hC
            show GW κ 6 0 0 (wM r g I33542 A33542 L33542) 67 [(4, .int x33326), (3, .int x33327), (0, .ref (r 0)), (1, .int z1), (2, .int z2)] [.int y33541]
            refine g_istore (lv' := [(5, .int y33541), (4, .int x33326), (3, .int x33327), (0, .ref (r 0)), (1, .int z1), (2, .int z2)]) hk dX12_nearOf_67 (by decide) rfl ?_
            refine g_iload_n hk dX12_nearOf_69 rfl ?_
            refine g_if_lt (tgt := 85) (a := x33327.toInt) hk dX12_nearOf_70 (by decide) rfl (fun c33543 => ?_) (fun c33543 => ?_)
            · skip
              replace hF := FE.pos hF c33543
              refine g_iload hk dX12_nearOf_85 rfl ?_
              refine g_istore_n (lv' := [(3, .int x33326), (5, .int y33541), (4, .int x33326), (0, .ref (r 0)), (1, .int z1), (2, .int z2)]) hk dX12_nearOf_87 (by decide) rfl ?_
              refine g_aload_n hk dX12_nearOf_88 rfl ?_
              refine g_iload hk dX12_nearOf_89 rfl ?_
              refine pM_i25 hk hin12 (List.mem_cons_of_mem _ (List.mem_append_left _ (List.mem_of_getElem? (i := 0) rfl))) dX12_nearOf_91 ?_
              obtain ⟨y33544, ey33544⟩ : ∃ y : Int32, y = x33326 + Int32.ofInt 1 := ⟨_, rfl⟩
              replace hF := FE.lt hF ey33544
              have hy33544 : y33544.toInt = x33326.toInt + 1 := i32_add ey33544 rfl (by decide) (by omega) (by omega)
              refine g_iinc (v := y33544) (lv' := [(4, .int y33544), (3, .int x33326), (5, .int y33541), (0, .ref (r 0)), (1, .int z1), (2, .int z2)]) hk 2 dX12_nearOf_94 rfl ey33544.symm (by decide) rfl ?_
              refine g_goto (tgt := 12) hk dX12_nearOf_97 (by decide) ?_
              exact g_lv (List.forall_mem_cons.mpr ⟨List.mem_of_getElem? (i := 0) rfl, (List.forall_mem_cons.mpr ⟨List.mem_of_getElem? (i := 1) rfl, (List.forall_mem_cons.mpr ⟨List.mem_of_getElem? (i := 3) rfl, (List.forall_mem_cons.mpr ⟨List.mem_of_getElem? (i := 4) rfl, (List.forall_mem_cons.mpr ⟨List.mem_of_getElem? (i := 5) rfl, (fun _ h => absurd h List.not_mem_nil)⟩)⟩)⟩)⟩)⟩) (ih33515 y33544 x33326 (upd I33542 25 y33541) A33542 L33542 (show Md [18, 19, 20, 25] (upd I 25 (-2)) (upd I33542 25 y33541) from Md.tr hI33331 (show Md [18, 19, 20, 25] I33331 (upd I33542 25 y33541) from (Md.up (Md.tr (Md.tr Md.rf hI33537 rfl) hI33542 rfl) rfl)) rfl) (show Md [19, 20, 21] A A33542 from Md.tr hA33331 (show Md [19, 20, 21] A33331 A33542 from (Md.tr (Md.tr Md.rf hA33537 rfl) hA33542 rfl)) rfl) ⟨(IvM_f1 (I := I33542) (A := A33542) hV33542), (IvM_f2 (I := I33542) (A := A33542) hV33542), (IvM_f3 (I := I33542) (A := A33542) hV33542), (IvM_f4 (I := I33542) (A := A33542) hV33542), (IvM_f6 (I := I33542) (A := A33542) hV33542), (IvM_f8 (I := I33542) (A := A33542) hV33542), (IvM_f15 (I := I33542) (A := A33542) hV33542), (IvM_f16 (I := I33542) (A := A33542) hV33542), (IvM_f17 (I := I33542) (A := A33542) hV33542), (IvM_f18 (I := I33542) (A := A33542) hV33542), (IvM_f22 (I := I33542) (A := A33542) hV33542), (IvM_f23 (I := I33542) (A := A33542) hV33542), (IvM_f24 (I := I33542) (A := A33542) hV33542), (IvM_a11 (I := I33542) (A := A33542) hV33542), (IvM_a26 (I := I33542) (A := A33542) hV33542), (IvM_s8_0 (I := I33542) (A := A33542) hV33542), (IvM_s8_1 (I := I33542) (A := A33542) hV33542), (IvM_s10_0 (I := I33542) (A := A33542) hV33542), (IvM_s10_1 (I := I33542) (A := A33542) hV33542), (IvM_s17_0 (I := I33542) (A := A33542) hV33542), (IvM_s17_164 (I := I33542) (A := A33542) hV33542), (IvM_lv (I := I33542) (A := A33542) hV33542), (IvM_sd (I := I33542) (A := A33542) hV33542), (IvM_nq (I := I33542) (A := A33542) hV33542), (IvM_hr (I := I33542) (A := A33542) hV33542), (IvM_hh (I := I33542) (A := A33542) hV33542), trivial⟩ (show L33542 = L from ((hL33542.trans hL33537).trans hL33331)) (by omega) (by omega) (by omega) (by omega) (by omega) (by omega) hF)
            · skip
              replace hF := FE.neg hF c33543
              refine g_iload hk dX12_nearOf_73 rfl ?_
              refine g_aload_n hk dX12_nearOf_75 rfl ?_
              refine gM_i25 (v := (I33331 25)) hk hin12 (List.mem_cons_of_mem _ (List.mem_append_left _ (List.mem_of_getElem? (i := 0) rfl))) dX12_nearOf_76 ((hI33542 25 rfl).trans (hI33537 25 rfl)) ?_
              have b33545l := Int32.le_toInt y33541
              have b33545h := Int32.toInt_lt y33541
              have b33546l := Int32.le_toInt (I33331 25)
              have b33546h := Int32.toInt_lt (I33331 25)
              refine g_icmp_lt (tgt := 85) (a := y33541.toInt) (b := (I33331 25).toInt) hk dX12_nearOf_79 (by decide) rfl rfl (fun c33547 => ?_) (fun c33547 => ?_)
              · skip
                replace hF := FE.pos hF c33547
                refine g_iload hk dX12_nearOf_85 rfl ?_
                refine g_istore_n (lv' := [(3, .int x33326), (5, .int y33541), (4, .int x33326), (0, .ref (r 0)), (1, .int z1), (2, .int z2)]) hk dX12_nearOf_87 (by decide) rfl ?_
                refine g_aload_n hk dX12_nearOf_88 rfl ?_
                refine g_iload hk dX12_nearOf_89 rfl ?_
                refine pM_i25 hk hin12 (List.mem_cons_of_mem _ (List.mem_append_left _ (List.mem_of_getElem? (i := 0) rfl))) dX12_nearOf_91 ?_
                obtain ⟨y33548, ey33548⟩ : ∃ y : Int32, y = x33326 + Int32.ofInt 1 := ⟨_, rfl⟩
                replace hF := FE.lt hF ey33548
                have hy33548 : y33548.toInt = x33326.toInt + 1 := i32_add ey33548 rfl (by decide) (by omega) (by omega)
                refine g_iinc (v := y33548) (lv' := [(4, .int y33548), (3, .int x33326), (5, .int y33541), (0, .ref (r 0)), (1, .int z1), (2, .int z2)]) hk 2 dX12_nearOf_94 rfl ey33548.symm (by decide) rfl ?_
                refine g_goto (tgt := 12) hk dX12_nearOf_97 (by decide) ?_
                exact g_lv (List.forall_mem_cons.mpr ⟨List.mem_of_getElem? (i := 0) rfl, (List.forall_mem_cons.mpr ⟨List.mem_of_getElem? (i := 1) rfl, (List.forall_mem_cons.mpr ⟨List.mem_of_getElem? (i := 3) rfl, (List.forall_mem_cons.mpr ⟨List.mem_of_getElem? (i := 4) rfl, (List.forall_mem_cons.mpr ⟨List.mem_of_getElem? (i := 5) rfl, (fun _ h => absurd h List.not_mem_nil)⟩)⟩)⟩)⟩)⟩) (ih33515 y33548 x33326 (upd I33542 25 y33541) A33542 L33542 (show Md [18, 19, 20, 25] (upd I 25 (-2)) (upd I33542 25 y33541) from Md.tr hI33331 (show Md [18, 19, 20, 25] I33331 (upd I33542 25 y33541) from (Md.up (Md.tr (Md.tr Md.rf hI33537 rfl) hI33542 rfl) rfl)) rfl) (show Md [19, 20, 21] A A33542 from Md.tr hA33331 (show Md [19, 20, 21] A33331 A33542 from (Md.tr (Md.tr Md.rf hA33537 rfl) hA33542 rfl)) rfl) ⟨(IvM_f1 (I := I33542) (A := A33542) hV33542), (IvM_f2 (I := I33542) (A := A33542) hV33542), (IvM_f3 (I := I33542) (A := A33542) hV33542), (IvM_f4 (I := I33542) (A := A33542) hV33542), (IvM_f6 (I := I33542) (A := A33542) hV33542), (IvM_f8 (I := I33542) (A := A33542) hV33542), (IvM_f15 (I := I33542) (A := A33542) hV33542), (IvM_f16 (I := I33542) (A := A33542) hV33542), (IvM_f17 (I := I33542) (A := A33542) hV33542), (IvM_f18 (I := I33542) (A := A33542) hV33542), (IvM_f22 (I := I33542) (A := A33542) hV33542), (IvM_f23 (I := I33542) (A := A33542) hV33542), (IvM_f24 (I := I33542) (A := A33542) hV33542), (IvM_a11 (I := I33542) (A := A33542) hV33542), (IvM_a26 (I := I33542) (A := A33542) hV33542), (IvM_s8_0 (I := I33542) (A := A33542) hV33542), (IvM_s8_1 (I := I33542) (A := A33542) hV33542), (IvM_s10_0 (I := I33542) (A := A33542) hV33542), (IvM_s10_1 (I := I33542) (A := A33542) hV33542), (IvM_s17_0 (I := I33542) (A := A33542) hV33542), (IvM_s17_164 (I := I33542) (A := A33542) hV33542), (IvM_lv (I := I33542) (A := A33542) hV33542), (IvM_sd (I := I33542) (A := A33542) hV33542), (IvM_nq (I := I33542) (A := A33542) hV33542), (IvM_hr (I := I33542) (A := A33542) hV33542), (IvM_hh (I := I33542) (A := A33542) hV33542), trivial⟩ (show L33542 = L from ((hL33542.trans hL33537).trans hL33331)) (by omega) (by omega) (by omega) (by omega) (by omega) (by omega) hF)
              · skip
                replace hF := FE.neg hF c33547
                refine g_goto (tgt := 94) hk dX12_nearOf_82 (by decide) ?_
                obtain ⟨y33549, ey33549⟩ : ∃ y : Int32, y = x33326 + Int32.ofInt 1 := ⟨_, rfl⟩
                replace hF := FE.lt hF ey33549
                have hy33549 : y33549.toInt = x33326.toInt + 1 := i32_add ey33549 rfl (by decide) (by omega) (by omega)
                refine g_iinc (v := y33549) (lv' := [(4, .int y33549), (5, .int y33541), (3, .int x33327), (0, .ref (r 0)), (1, .int z1), (2, .int z2)]) hk 1 dX12_nearOf_94 rfl ey33549.symm (by decide) rfl ?_
                refine g_goto (tgt := 12) hk dX12_nearOf_97 (by decide) ?_
                exact g_lv (List.forall_mem_cons.mpr ⟨List.mem_of_getElem? (i := 0) rfl, (List.forall_mem_cons.mpr ⟨List.mem_of_getElem? (i := 2) rfl, (List.forall_mem_cons.mpr ⟨List.mem_of_getElem? (i := 3) rfl, (List.forall_mem_cons.mpr ⟨List.mem_of_getElem? (i := 4) rfl, (List.forall_mem_cons.mpr ⟨List.mem_of_getElem? (i := 5) rfl, (fun _ h => absurd h List.not_mem_nil)⟩)⟩)⟩)⟩)⟩) (ih33515 y33549 x33327 I33542 A33542 L33542 (show Md [18, 19, 20, 25] (upd I 25 (-2)) I33542 from Md.tr hI33331 (show Md [18, 19, 20, 25] I33331 I33542 from (Md.tr (Md.tr Md.rf hI33537 rfl) hI33542 rfl)) rfl) (show Md [19, 20, 21] A A33542 from Md.tr hA33331 (show Md [19, 20, 21] A33331 A33542 from (Md.tr (Md.tr Md.rf hA33537 rfl) hA33542 rfl)) rfl) hV33542 (show L33542 = L from ((hL33542.trans hL33537).trans hL33331)) (by omega) (by omega) (by omega) (by omega) (by omega) (by omega) hF)
        · skip
          replace hF := FE.neg hF (fe_ne hC (by decide))
          show GW κ 6 0 0 (wM r g I33331 A33331 L33331) 36 [(4, .int x33326), (3, .int x33327), (0, .ref (r 0)), (1, .int z1), (2, .int z2)] [.int 1]
          refine g_if_ne (tgt := 94) (a := 1) hk dX12_nearOf_36 (by decide) rfl (fun _ => ?_) (fun z9 => absurd (show (1 : Int) ≠ (0 : Int) from by decide) z9)
          obtain ⟨y33550, ey33550⟩ : ∃ y : Int32, y = x33326 + Int32.ofInt 1 := ⟨_, rfl⟩
          replace hF := FE.lt hF ey33550
          have hy33550 : y33550.toInt = x33326.toInt + 1 := i32_add ey33550 rfl (by decide) (by omega) (by omega)
          refine g_iinc (v := y33550) (lv' := [(4, .int y33550), (3, .int x33327), (0, .ref (r 0)), (1, .int z1), (2, .int z2)]) hk 0 dX12_nearOf_94 rfl ey33550.symm (by decide) rfl ?_
          refine g_goto (tgt := 12) hk dX12_nearOf_97 (by decide) ?_
          exact g_lv (List.forall_mem_cons.mpr ⟨List.mem_of_getElem? (i := 0) rfl, (List.forall_mem_cons.mpr ⟨List.mem_of_getElem? (i := 1) rfl, (List.forall_mem_cons.mpr ⟨List.mem_of_getElem? (i := 2) rfl, (List.forall_mem_cons.mpr ⟨List.mem_of_getElem? (i := 3) rfl, (List.forall_mem_cons.mpr ⟨List.mem_of_getElem? (i := 4) rfl, (fun _ h => absurd h List.not_mem_nil)⟩)⟩)⟩)⟩)⟩) (ih33515 y33550 x33327 I33331 A33331 L33331 (show Md [18, 19, 20, 25] (upd I 25 (-2)) I33331 from Md.tr hI33331 (show Md [18, 19, 20, 25] I33331 I33331 from Md.rf) rfl) (show Md [19, 20, 21] A A33331 from Md.tr hA33331 (show Md [19, 20, 21] A33331 A33331 from Md.rf) rfl) hV33331 (show L33331 = L from hL33331) (by omega) (by omega) (by omega) (by omega) (by omega) (by omega) hF)
  have k33551 : (0 : Int32).toInt = 0 := rfl
  have k33552 : ((-2) : Int32).toInt = (-2) := rfl
  have b33554 := Int32.le_toInt (0 : Int32)
  have b33555 := Int32.toInt_lt (0 : Int32)
  have n33553a : 161 - (0 : Int32).toInt < (FU : Int) := by have := FU_eq; omega
  have n33553b : 0 < FU := by have := FU_eq; omega
  exact lp33511 FU 0 (-2) (upd I 25 (-2)) A L Md.rf Md.rf ⟨(IvM_f1 (I := I) (A := A) hIv), (IvM_f2 (I := I) (A := A) hIv), (IvM_f3 (I := I) (A := A) hIv), (IvM_f4 (I := I) (A := A) hIv), (IvM_f6 (I := I) (A := A) hIv), (IvM_f8 (I := I) (A := A) hIv), (IvM_f15 (I := I) (A := A) hIv), (IvM_f16 (I := I) (A := A) hIv), (IvM_f17 (I := I) (A := A) hIv), (IvM_f18 (I := I) (A := A) hIv), (IvM_f22 (I := I) (A := A) hIv), (IvM_f23 (I := I) (A := A) hIv), (IvM_f24 (I := I) (A := A) hIv), (IvM_a11 (I := I) (A := A) hIv), (IvM_a26 (I := I) (A := A) hIv), (IvM_s8_0 (I := I) (A := A) hIv), (IvM_s8_1 (I := I) (A := A) hIv), (IvM_s10_0 (I := I) (A := A) hIv), (IvM_s10_1 (I := I) (A := A) hIv), (IvM_s17_0 (I := I) (A := A) hIv), (IvM_s17_164 (I := I) (A := A) hIv), (IvM_lv (I := I) (A := A) hIv), (IvM_sd (I := I) (A := A) hIv), (IvM_nq (I := I) (A := A) hIv), (IvM_hr (I := I) (A := A) hIv), (IvM_hh (I := I) (A := A) hIv), trivial⟩ rfl (by omega) (by omega) (by omega) (by omega) n33553a n33553b hF
