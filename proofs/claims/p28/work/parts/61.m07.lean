noncomputable def bM12_laysRow_6 (I : Nat → Int32) (z1 : Int32) (A : Nat → Nat → Int32) : (Int32 → Int32 → (Nat → Int32) → (Nat → Nat → Int32) → (Nat → Nat → Int64) → (Int32 × (Nat → Int32) × (Nat → Nat → Int32) × (Nat → Nat → Int64))) → Int32 → Int32 → (Nat → Int32) → (Nat → Nat → Int32) → (Nat → Nat → Int64) → (Int32 × (Nat → Int32) × (Nat → Nat → Int32) × (Nat → Nat → Int64)) := fun kk30167 x29927 x29928 I29931 A29931 L29931 => if (I 18).toInt ≤ x29927.toInt then (x29928, I29931, A29931, L29931) else if fM12_isBand I29931 A29931 L29931 z1 x29927 = 0 then f_lt (x29927 + Int32.ofInt 1) fun y30176 => kk30167 y30176 x29928 I29931 A29931 L29931 else f_lt (z1 - (1 : Int32)) fun y30178 => f_lt (x29927 - (1 : Int32)) fun y30179 => f_lt (fM12_atTable I29931 A29931 L29931 y30178 y30179) fun y30180 => f_lt (z1 - (1 : Int32)) fun y30181 => f_lt (fM12_atTable I29931 A29931 L29931 y30181 x29927) fun y30182 => f_lt (x29927 - (1 : Int32)) fun y30183 => f_lt (fM12_atTable I29931 A29931 L29931 z1 y30183) fun y30184 => f_lt (fM12_least I29931 A29931 L29931 y30182 y30184) fun y30185 => f_lt (fM12_least I29931 A29931 L29931 y30180 y30185) fun y30186 => if z1.toInt ≠ 0 then f_lt ((16 : Int32) * z1) fun y30188 => f_lt (y30188 + x29927) fun y30189 => f_lt (fM12_costOf I29931 A29931 L29931 (A 19 z1.toNatClampNeg) (A 20 x29927.toNatClampNeg)) fun y30190 => f_lt (y30186 + y30190) fun y30193 => f_lt ((16 : Int32) * z1) fun y30194 => f_lt (y30194 + x29927) fun y30195 => f_lt ((up3 A29931 21 (y30189.toNatClampNeg) y30193) 21 (y30195.toNatClampNeg)) fun y30196 => f_lt (fM12_least I29931 (up3 A29931 21 (y30189.toNatClampNeg) y30193) L29931 x29928 y30196) fun y30197 => f_lt ((I29931 19) + (1 : Int32)) fun y30199 => f_lt (x29927 + Int32.ofInt 1) fun y30200 => kk30167 y30200 y30197 (upd I29931 19 y30199) (up3 A29931 21 (y30189.toNatClampNeg) y30193) L29931 else if x29927.toInt ≠ 0 then f_lt ((16 : Int32) * z1) fun y30203 => f_lt (y30203 + x29927) fun y30204 => f_lt (fM12_costOf I29931 A29931 L29931 (A 19 z1.toNatClampNeg) (A 20 x29927.toNatClampNeg)) fun y30205 => f_lt (y30186 + y30205) fun y30208 => f_lt ((16 : Int32) * z1) fun y30209 => f_lt (y30209 + x29927) fun y30210 => f_lt ((up3 A29931 21 (y30204.toNatClampNeg) y30208) 21 (y30210.toNatClampNeg)) fun y30211 => f_lt (fM12_least I29931 (up3 A29931 21 (y30204.toNatClampNeg) y30208) L29931 x29928 y30211) fun y30212 => f_lt ((I29931 19) + (1 : Int32)) fun y30214 => f_lt (x29927 + Int32.ofInt 1) fun y30215 => kk30167 y30215 y30212 (upd I29931 19 y30214) (up3 A29931 21 (y30204.toNatClampNeg) y30208) L29931 else f_lt ((16 : Int32) * z1) fun y30217 => f_lt (y30217 + x29927) fun y30218 => f_lt (fM12_costOf I29931 A29931 L29931 (A 19 z1.toNatClampNeg) (A 20 x29927.toNatClampNeg)) fun y30219 => f_lt ((0 : Int32) + y30219) fun y30221 => f_lt ((16 : Int32) * z1) fun y30222 => f_lt (y30222 + x29927) fun y30223 => f_lt ((up3 A29931 21 (y30218.toNatClampNeg) y30221) 21 (y30223.toNatClampNeg)) fun y30224 => f_lt (fM12_least I29931 (up3 A29931 21 (y30218.toNatClampNeg) y30221) L29931 x29928 y30224) fun y30225 => f_lt ((I29931 19) + (1 : Int32)) fun y30227 => f_lt (x29927 + Int32.ofInt 1) fun y30228 => kk30167 y30228 y30225 (upd I29931 19 y30227) (up3 A29931 21 (y30218.toNatClampNeg) y30221) L29931
noncomputable def fM12_laysRow (I : Nat → Int32) (A : Nat → Nat → Int32) (L : Nat → Nat → Int64) (z1 : Int32) : Int32 × (Nat → Int32) × (Nat → Nat → Int32) × (Nat → Nat → Int64) := itr_iiIAL dfM (bM12_laysRow_6 I z1 A) FU 0 2000000000 I A L
def wo_j176_X12_laysRow : List Cond := [Cond.constant RX12 282 (2000000000), Cond.fieldLink RX12 267 "WarpDeskModel" "wide" "I", Cond.methodLink RX12 279 yX12_isBand, Cond.instanceMethod yX12_isBand, Cond.selects RX12 yX12_isBand yX12_isBand, Cond.initialized RX12, Cond.methodLink RX12 283 yX12_atTable, Cond.instanceMethod yX12_atTable, Cond.selects RX12 yX12_atTable yX12_atTable, Cond.methodLink RX12 286 yX12_least, Cond.static yX12_least, Cond.fieldLink RX12 82 "WarpDeskModel" "tableAt" "[I", Cond.fieldLink RX12 76 "WarpDeskModel" "firstAt" "[I", Cond.fieldLink RX12 79 "WarpDeskModel" "otherAt" "[I", Cond.methodLink RX12 289 yX12_costOf, Cond.instanceMethod yX12_costOf, Cond.selects RX12 yX12_costOf yX12_costOf, Cond.fieldLink RX12 292 "WarpDeskModel" "laid" "I"]
def wz_j176_X12_laysRow : List Cond := .code yX12_laysRow cX12_laysRow 5 (some .int) :: (wo_j176_X12_laysRow ++ (wsX120 ++ (wz_j175_X12_isBand ++ (wz_j174_X12_atTable ++ (wz_j177_X12_least ++ (wz_j178_X12_costOf ++ ([] : List Cond)))))))
theorem zg_j176_X12_laysRow : ∀ w ∈ wz_j176_X12_laysRow, goodWord w = true := zg_cons rfl (zg_app (by decide +kernel) (zg_app zgU_wsX120 (zg_app zg_j175_X12_isBand (zg_app zg_j174_X12_atTable (zg_app zg_j177_X12_least (zg_app zg_j178_X12_costOf zg_nil))))))
theorem zi_j176_X12_laysRow : ∀ w ∈ wz_j176_X12_laysRow, w ∈ lw_tbl := zi_cons zw_1783 (zi_app (zi_cons zw_1775 (zi_cons zw_1415 (zi_cons zw_1784 (zi_cons zw_1786 (zi_cons zw_85 (zi_cons zw_115 (zi_cons zw_1788 (zi_cons zw_1790 (zi_cons zw_86 (zi_cons zw_1792 (zi_cons zw_1793 (zi_cons zw_1418 (zi_cons zw_1416 (zi_cons zw_1417 (zi_cons zw_1795 (zi_cons zw_1797 (zi_cons zw_87 (zi_cons zw_1419 zi_nil)))))))))))))))))) (zi_app inX12 (zi_app zi_j175_X12_isBand (zi_app zi_j174_X12_atTable (zi_app zi_j177_X12_least (zi_app zi_j178_X12_costOf zi_nil))))))
set_option maxHeartbeats 4000000 in
set_option maxRecDepth 100000 in
theorem j176_X12_laysRow (l : Launch) (D : va_G) (zt : Nat × Nat × Nat × (Nat → Nat) × (Nat → Nat)) (r : Nat → Nat) (g : Nat → ClassId) (I : Nat → Int32) (A : Nat → Nat → Int32) (L : Nat → Nat → Int64) (z1 : Int32) (hIv : IvM I A) (hp0 : 0 ≤ z1.toInt) (hp1 : z1.toInt ≤ 15) : GM l D zt (tyM g) yX12_laysRow wz_j176_X12_laysRow ({ frames := 3, cells := 0, slots := 0, locals := 66 } : Room) [.ref (r 0), .int z1] (wM r g I A L) (fun v _ w' => ∃ (I' : Nat → Int32) (A' : Nat → Nat → Int32) (L' : Nat → Nat → Int64), Md [19] I I' ∧ Md [21] A A' ∧ IvM I' A' ∧ ∃ y0 : Int32, (L' = L) ∧ FE (fM12_laysRow I A L z1) (y0, I', A', L') ∧ v = some (.int y0) ∧ w' = wM r g I' A' L') 0 0 := by
  refine GM.of (cc := cX12_laysRow) (maxL := 5) (ret := (some .int)) (own := RX12) (lv := [(0, .ref (r 0)), (1, .int z1)]) (by decide) rfl rfl (Nat.le_of_ble_eq_true rfl) rfl (fun κ sz hk hR hN => ?_)
  have hin12 : ∀ w ∈ u_ws RX12 TX12 55, w ∈ wz_j176_X12_laysRow := fun w h => (List.mem_cons_of_mem _ (List.mem_append_right _ (List.mem_append_left _ h)))
  have hF : FE (fM12_laysRow I A L z1) (fM12_laysRow I A L z1) := FE.rf
  refine g_ldcw (v := 2000000000) hk (List.mem_cons_of_mem _ (List.mem_append_left _ (List.mem_of_getElem? (i := 0) rfl))) dX12_laysRow_0 ?_
  refine g_istore_n (lv' := [(2, .int 2000000000), (0, .ref (r 0)), (1, .int z1)]) hk dX12_laysRow_3 (by decide) rfl ?_
  refine g_iconst (v := 0) hk dX12_laysRow_4 (by decide) ?_
  refine g_istore_n (lv' := [(3, .int 0), (2, .int 2000000000), (0, .ref (r 0)), (1, .int z1)]) hk dX12_laysRow_5 (by decide) rfl ?_
  have lp30164 : ∀ (n30165 : Nat) (x29927 : Int32) (x29928 : Int32) (I29931 : Nat → Int32) (A29931 : Nat → Nat → Int32) (L29931 : Nat → Nat → Int64), (Md [19] I I29931) → (Md [21] A A29931) → (IvM I29931 A29931) → (L29931 = L) → (0 ≤ x29927.toInt) → (x29927.toInt ≤ 16) → (17 - x29927.toInt < (n30165 : Int)) → (0 < n30165) → (FE (fM12_laysRow I A L z1) (itr_iiIAL dfM (bM12_laysRow_6 I z1 A) n30165 x29927 x29928 I29931 A29931 L29931)) → GW κ 5 0 0 (wM r g I29931 A29931 L29931) 6 [(3, .int x29927), (2, .int x29928), (0, .ref (r 0)), (1, .int z1)] [] := by
    intro n30165
    induction n30165 with
    | zero =>
      intro x29927 x29928 I29931 A29931 L29931 hI29931 hA29931 hV29931 hL29931 h30162 h30163 m30166 m30166z hF
      exact absurd m30166z (Nat.lt_irrefl 0)
    | succ n30165 ih30168 =>
      intro x29927 x29928 I29931 A29931 L29931 hI29931 hA29931 hV29931 hL29931 h30162 h30163 m30166 m30166z hF
      replace hF := FE.itr_iiIAL hF
      refine g_iload_n hk dX12_laysRow_6 rfl ?_
      refine g_aload_n hk dX12_laysRow_7 rfl ?_
      refine gM_i18 (v := (I 18)) hk hin12 (List.mem_cons_of_mem _ (List.mem_append_left _ (List.mem_of_getElem? (i := 1) rfl))) dX12_laysRow_8 (hI29931 18 rfl) ?_
      have f30169 := IvM_f18 hIv
      refine g_icmp_ge (tgt := 133) (a := x29927.toInt) (b := (I 18).toInt) hk dX12_laysRow_11 (by decide) rfl rfl (fun c30170 => ?_) (fun c30170 => ?_)
      · skip
        replace hF := FE.pos hF c30170
        refine g_iload_n hk dX12_laysRow_133 rfl ?_
        have b30171l := Int32.le_toInt x29928
        have b30171h := Int32.toInt_lt x29928
        exact g_iret hk hR rfl ⟨I29931, A29931, L29931, (show Md [19] I I29931 from (Md.tr Md.rf hI29931 rfl)), (show Md [21] A A29931 from (Md.tr Md.rf hA29931 rfl)), hV29931, x29928, (show L29931 = L from hL29931), hF, rfl, rfl⟩ dX12_laysRow_134
      · skip
        replace hF := FE.neg hF c30170
        refine g_aload_n hk dX12_laysRow_14 rfl ?_
        refine g_iload_n hk dX12_laysRow_15 rfl ?_
        refine g_iload_n hk dX12_laysRow_16 rfl ?_
        refine g_callV (n := 2) hk (j175_X12_isBand l D zt r g I29931 A29931 L29931 z1 x29927 hV29931 (by omega) (by omega) (by omega) (by omega)) (SP.same _) (fun _ h => h) (gi_V (List.mem_cons_of_mem _ (List.mem_append_left _ (List.mem_of_getElem? (i := 2) rfl))) (List.mem_cons_of_mem _ (List.mem_append_left _ (List.mem_of_getElem? (i := 3) rfl))) (List.mem_cons_of_mem _ (List.mem_append_left _ (List.mem_of_getElem? (i := 4) rfl))) (List.mem_cons_of_mem _ (List.mem_append_left _ (List.mem_of_getElem? (i := 5) rfl))) (gi_sub (fun w h => (List.mem_cons_of_mem _ (List.mem_append_right _ (List.mem_append_right _ (List.mem_append_left _ h))))) zg_j175_X12_isBand)) rfl rfl rfl (by decide +kernel) ⟨Nat.le_of_ble_eq_true rfl, Nat.le_of_ble_eq_true rfl⟩ 0 rfl rfl rfl rfl (Nat.le_of_ble_eq_true rfl) ⟨Nat.le_of_ble_eq_true rfl, Nat.le_of_ble_eq_true rfl⟩ dX12_laysRow_17 (fun v ty' w' hp hk' => ?_)
        rcases hp with ⟨hC, rfl, rfl⟩ | ⟨c30173, c30174, hC, rfl, rfl⟩
        · skip
          replace hF := FE.pos hF hC
          show GW κ 5 0 0 (wM r g I29931 A29931 L29931) 20 [(3, .int x29927), (2, .int x29928), (0, .ref (r 0)), (1, .int z1)] [.int 0]
          refine g_if_ne (tgt := 26) (a := 0) hk dX12_laysRow_20 (by decide) rfl (fun z9 => absurd z9 (show ¬ ((0 : Int) ≠ (0 : Int)) from by decide)) (fun _ => ?_)
          refine g_goto (tgt := 127) hk dX12_laysRow_23 (by decide) ?_
          obtain ⟨y30176, ey30176⟩ : ∃ y : Int32, y = x29927 + Int32.ofInt 1 := ⟨_, rfl⟩
          replace hF := FE.lt hF ey30176
          have hy30176 : y30176.toInt = x29927.toInt + 1 := i32_add ey30176 rfl (by decide) (by omega) (by omega)
          refine g_iinc (v := y30176) (lv' := [(3, .int y30176), (2, .int x29928), (0, .ref (r 0)), (1, .int z1)]) hk 0 dX12_laysRow_127 rfl ey30176.symm (by decide) rfl ?_
          refine g_goto (tgt := 6) hk dX12_laysRow_130 (by decide) ?_
          have b30177l := Int32.le_toInt x29928
          have b30177h := Int32.toInt_lt x29928
          exact g_lv (List.forall_mem_cons.mpr ⟨List.mem_of_getElem? (i := 0) rfl, (List.forall_mem_cons.mpr ⟨List.mem_of_getElem? (i := 1) rfl, (List.forall_mem_cons.mpr ⟨List.mem_of_getElem? (i := 2) rfl, (List.forall_mem_cons.mpr ⟨List.mem_of_getElem? (i := 3) rfl, (fun _ h => absurd h List.not_mem_nil)⟩)⟩)⟩)⟩) (ih30168 y30176 x29928 I29931 A29931 L29931 (show Md [19] I I29931 from Md.tr hI29931 (show Md [19] I29931 I29931 from Md.rf) rfl) (show Md [21] A A29931 from Md.tr hA29931 (show Md [21] A29931 A29931 from Md.rf) rfl) hV29931 (show L29931 = L from hL29931) (by omega) (by omega) (by omega) (by omega) hF)
        · skip
          replace hF := FE.neg hF (fe_ne hC (by decide))
          show GW κ 5 0 0 (wM r g I29931 A29931 L29931) 20 [(3, .int x29927), (2, .int x29928), (0, .ref (r 0)), (1, .int z1)] [.int 1]
          refine g_if_ne (tgt := 26) (a := 1) hk dX12_laysRow_20 (by decide) rfl (fun _ => ?_) (fun z9 => absurd (show (1 : Int) ≠ (0 : Int) from by decide) z9)
          refine g_aload_n hk dX12_laysRow_26 rfl ?_
          refine g_iload_n hk dX12_laysRow_27 rfl ?_
          refine g_iconst (v := 1) hk dX12_laysRow_28 (by decide) ?_
          refine g_isub hk dX12_laysRow_29 ?_
          refine g_topi (fun y30178 ey30178 => ?_)
          replace hF := FE.lt hF ey30178
          have hy30178 : y30178.toInt = z1.toInt - 1 := i32_sub ey30178 rfl rfl (by omega) (by omega)
          refine g_iload_n hk dX12_laysRow_30 rfl ?_
          refine g_iconst (v := 1) hk dX12_laysRow_31 (by decide) ?_
          refine g_isub hk dX12_laysRow_32 ?_
          refine g_topi (fun y30179 ey30179 => ?_)
          replace hF := FE.lt hF ey30179
          have hy30179 : y30179.toInt = x29927.toInt - 1 := i32_sub ey30179 rfl rfl (by omega) (by omega)
          refine g_callV (n := 2) hk (j174_X12_atTable l D zt r g I29931 A29931 L29931 y30178 y30179 hV29931 (by omega) (by omega) (by omega) (by omega)) (SP.same _) (fun _ h => h) (gi_V (List.mem_cons_of_mem _ (List.mem_append_left _ (List.mem_of_getElem? (i := 6) rfl))) (List.mem_cons_of_mem _ (List.mem_append_left _ (List.mem_of_getElem? (i := 7) rfl))) (List.mem_cons_of_mem _ (List.mem_append_left _ (List.mem_of_getElem? (i := 8) rfl))) (List.mem_cons_of_mem _ (List.mem_append_left _ (List.mem_of_getElem? (i := 5) rfl))) (gi_sub (fun w h => (List.mem_cons_of_mem _ (List.mem_append_right _ (List.mem_append_right _ (List.mem_append_right _ (List.mem_append_left _ h)))))) zg_j174_X12_atTable)) rfl rfl rfl (by decide +kernel) ⟨Nat.le_of_ble_eq_true rfl, Nat.le_of_ble_eq_true rfl⟩ 0 rfl rfl rfl rfl (Nat.le_of_ble_eq_true rfl) ⟨Nat.le_of_ble_eq_true rfl, Nat.le_of_ble_eq_true rfl⟩ dX12_laysRow_33 (fun v ty' w' hp hk' => ?_)
          obtain ⟨y30180, hC, rfl, rfl⟩ := hp
          replace hF := FE.lt hF (fe_s hC)
          show GW κ 5 0 0 (wM r g I29931 A29931 L29931) 36 [(3, .int x29927), (2, .int x29928), (0, .ref (r 0)), (1, .int z1)] [.int y30180]
          refine g_aload_n hk dX12_laysRow_36 rfl ?_
          refine g_iload_n hk dX12_laysRow_37 rfl ?_
          refine g_iconst (v := 1) hk dX12_laysRow_38 (by decide) ?_
          refine g_isub hk dX12_laysRow_39 ?_
          refine g_topi (fun y30181 ey30181 => ?_)
          replace hF := FE.lt hF ey30181
          have hy30181 : y30181.toInt = z1.toInt - 1 := i32_sub ey30181 rfl rfl (by omega) (by omega)
          refine g_iload_n hk dX12_laysRow_40 rfl ?_
          refine g_callV (n := 2) hk (j174_X12_atTable l D zt r g I29931 A29931 L29931 y30181 x29927 hV29931 (by omega) (by omega) (by omega) (by omega)) (SP.same _) (fun _ h => h) (gi_V (List.mem_cons_of_mem _ (List.mem_append_left _ (List.mem_of_getElem? (i := 6) rfl))) (List.mem_cons_of_mem _ (List.mem_append_left _ (List.mem_of_getElem? (i := 7) rfl))) (List.mem_cons_of_mem _ (List.mem_append_left _ (List.mem_of_getElem? (i := 8) rfl))) (List.mem_cons_of_mem _ (List.mem_append_left _ (List.mem_of_getElem? (i := 5) rfl))) (gi_sub (fun w h => (List.mem_cons_of_mem _ (List.mem_append_right _ (List.mem_append_right _ (List.mem_append_right _ (List.mem_append_left _ h)))))) zg_j174_X12_atTable)) rfl rfl rfl (by decide +kernel) ⟨Nat.le_of_ble_eq_true rfl, Nat.le_of_ble_eq_true rfl⟩ 0 rfl rfl rfl rfl (Nat.le_of_ble_eq_true rfl) ⟨Nat.le_of_ble_eq_true rfl, Nat.le_of_ble_eq_true rfl⟩ dX12_laysRow_41 (fun v ty' w' hp hk' => ?_)
          obtain ⟨y30182, hC, rfl, rfl⟩ := hp
          replace hF := FE.lt hF (fe_s hC)
          show GW κ 5 0 0 (wM r g I29931 A29931 L29931) 44 [(3, .int x29927), (2, .int x29928), (0, .ref (r 0)), (1, .int z1)] [.int y30182, .int y30180]
          refine g_aload_n hk dX12_laysRow_44 rfl ?_
          refine g_iload_n hk dX12_laysRow_45 rfl ?_
          refine g_iload_n hk dX12_laysRow_46 rfl ?_
          refine g_iconst (v := 1) hk dX12_laysRow_47 (by decide) ?_
          refine g_isub hk dX12_laysRow_48 ?_
          refine g_topi (fun y30183 ey30183 => ?_)
          replace hF := FE.lt hF ey30183
          have hy30183 : y30183.toInt = x29927.toInt - 1 := i32_sub ey30183 rfl rfl (by omega) (by omega)
          refine g_callV (n := 2) hk (j174_X12_atTable l D zt r g I29931 A29931 L29931 z1 y30183 hV29931 (by omega) (by omega) (by omega) (by omega)) (SP.same _) (fun _ h => h) (gi_V (List.mem_cons_of_mem _ (List.mem_append_left _ (List.mem_of_getElem? (i := 6) rfl))) (List.mem_cons_of_mem _ (List.mem_append_left _ (List.mem_of_getElem? (i := 7) rfl))) (List.mem_cons_of_mem _ (List.mem_append_left _ (List.mem_of_getElem? (i := 8) rfl))) (List.mem_cons_of_mem _ (List.mem_append_left _ (List.mem_of_getElem? (i := 5) rfl))) (gi_sub (fun w h => (List.mem_cons_of_mem _ (List.mem_append_right _ (List.mem_append_right _ (List.mem_append_right _ (List.mem_append_left _ h)))))) zg_j174_X12_atTable)) rfl rfl rfl (by decide +kernel) ⟨Nat.le_of_ble_eq_true rfl, Nat.le_of_ble_eq_true rfl⟩ 0 rfl rfl rfl rfl (Nat.le_of_ble_eq_true rfl) ⟨Nat.le_of_ble_eq_true rfl, Nat.le_of_ble_eq_true rfl⟩ dX12_laysRow_49 (fun v ty' w' hp hk' => ?_)
          obtain ⟨y30184, hC, rfl, rfl⟩ := hp
          replace hF := FE.lt hF (fe_s hC)
          show GW κ 5 0 0 (wM r g I29931 A29931 L29931) 52 [(3, .int x29927), (2, .int x29928), (0, .ref (r 0)), (1, .int z1)] [.int y30184, .int y30182, .int y30180]
          refine g_callS (n := 2) hk (j177_X12_least l D zt r g I29931 A29931 L29931 y30182 y30184 hV29931) (SP.same _) (fun _ h => h) (gi_S (List.mem_cons_of_mem _ (List.mem_append_left _ (List.mem_of_getElem? (i := 9) rfl))) (List.mem_cons_of_mem _ (List.mem_append_left _ (List.mem_of_getElem? (i := 10) rfl))) (List.mem_cons_of_mem _ (List.mem_append_left _ (List.mem_of_getElem? (i := 5) rfl))) (gi_sub (fun w h => (List.mem_cons_of_mem _ (List.mem_append_right _ (List.mem_append_right _ (List.mem_append_right _ (List.mem_append_right _ (List.mem_append_left _ h))))))) zg_j177_X12_least)) rfl rfl rfl (by decide +kernel) ⟨Nat.le_of_ble_eq_true rfl, Nat.le_of_ble_eq_true rfl⟩ rfl rfl (Nat.le_of_ble_eq_true rfl) ⟨Nat.le_of_ble_eq_true rfl, Nat.le_of_ble_eq_true rfl⟩ dX12_laysRow_52 (fun v ty' w' hp hk' => ?_)
          obtain ⟨y30185, hC, rfl, rfl⟩ := hp
          replace hF := FE.lt hF (fe_s hC)
          show GW κ 5 0 0 (wM r g I29931 A29931 L29931) 55 [(3, .int x29927), (2, .int x29928), (0, .ref (r 0)), (1, .int z1)] [.int y30185, .int y30180]
          refine g_callS (n := 2) hk (j177_X12_least l D zt r g I29931 A29931 L29931 y30180 y30185 hV29931) (SP.same _) (fun _ h => h) (gi_S (List.mem_cons_of_mem _ (List.mem_append_left _ (List.mem_of_getElem? (i := 9) rfl))) (List.mem_cons_of_mem _ (List.mem_append_left _ (List.mem_of_getElem? (i := 10) rfl))) (List.mem_cons_of_mem _ (List.mem_append_left _ (List.mem_of_getElem? (i := 5) rfl))) (gi_sub (fun w h => (List.mem_cons_of_mem _ (List.mem_append_right _ (List.mem_append_right _ (List.mem_append_right _ (List.mem_append_right _ (List.mem_append_left _ h))))))) zg_j177_X12_least)) rfl rfl rfl (by decide +kernel) ⟨Nat.le_of_ble_eq_true rfl, Nat.le_of_ble_eq_true rfl⟩ rfl rfl (Nat.le_of_ble_eq_true rfl) ⟨Nat.le_of_ble_eq_true rfl, Nat.le_of_ble_eq_true rfl⟩ dX12_laysRow_55 (fun v ty' w' hp hk' => ?_)
          obtain ⟨y30186, hC, rfl, rfl⟩ := hp
          replace hF := FE.lt hF (fe_s hC)
          show GW κ 5 0 0 (wM r g I29931 A29931 L29931) 58 [(3, .int x29927), (2, .int x29928), (0, .ref (r 0)), (1, .int z1)] [.int y30186]
          refine g_istore (lv' := [(4, .int y30186), (3, .int x29927), (2, .int x29928), (0, .ref (r 0)), (1, .int z1)]) hk dX12_laysRow_58 (by decide) rfl ?_
          refine g_iload_n hk dX12_laysRow_60 rfl ?_
          refine g_if_ne (tgt := 71) (a := z1.toInt) hk dX12_laysRow_61 (by decide) rfl (fun c30187 => ?_) (fun c30187 => ?_)
          · skip
            replace hF := FE.pos hF c30187
            refine g_aload_n hk dX12_laysRow_71 rfl ?_
            refine gM_r0_40 hk hin12 (List.mem_cons_of_mem _ (List.mem_append_left _ (List.mem_of_getElem? (i := 11) rfl))) dX12_laysRow_72 ?_
            refine g_bipush (v := 16) hk dX12_laysRow_75 (by decide) ?_
            refine g_iload_n hk dX12_laysRow_77 rfl ?_
            refine g_imul hk dX12_laysRow_78 ?_
            refine g_topi (fun y30188 ey30188 => ?_)
            replace hF := FE.lt hF ey30188
            have hy30188 : y30188.toInt = 16 * z1.toInt := i32_mul ey30188 rfl rfl (by omega) (by omega)
            refine g_iload_n hk dX12_laysRow_79 rfl ?_
            refine g_iadd hk dX12_laysRow_80 ?_
            refine g_topi (fun y30189 ey30189 => ?_)
            replace hF := FE.lt hF ey30189
            have hy30189 : y30189.toInt = y30188.toInt + x29927.toInt := i32_add ey30189 rfl rfl (by omega) (by omega)
            refine g_iload hk dX12_laysRow_81 rfl ?_
            refine g_aload_n hk dX12_laysRow_83 rfl ?_
            refine g_aload_n hk dX12_laysRow_84 rfl ?_
            refine gM_r0_38 hk hin12 (List.mem_cons_of_mem _ (List.mem_append_left _ (List.mem_of_getElem? (i := 12) rfl))) dX12_laysRow_85 ?_
            refine g_iload_n hk dX12_laysRow_88 rfl ?_
            refine lM_19 (v := (A 19 z1.toNatClampNeg)) hk (vp_in_iff.mpr ⟨by omega, by omega⟩) (congrFun (hA29931 19 rfl) _) dX12_laysRow_89 ?_
            refine g_aload_n hk dX12_laysRow_90 rfl ?_
            refine gM_r0_39 hk hin12 (List.mem_cons_of_mem _ (List.mem_append_left _ (List.mem_of_getElem? (i := 13) rfl))) dX12_laysRow_91 ?_
            refine g_iload_n hk dX12_laysRow_94 rfl ?_
            refine lM_20 (v := (A 20 x29927.toNatClampNeg)) hk (vp_in_iff.mpr ⟨by omega, by omega⟩) (congrFun (hA29931 20 rfl) _) dX12_laysRow_95 ?_
            refine g_callV (n := 2) hk (j178_X12_costOf l D zt r g I29931 A29931 L29931 (A 19 z1.toNatClampNeg) (A 20 x29927.toNatClampNeg) hV29931) (SP.same _) (fun _ h => h) (gi_V (List.mem_cons_of_mem _ (List.mem_append_left _ (List.mem_of_getElem? (i := 14) rfl))) (List.mem_cons_of_mem _ (List.mem_append_left _ (List.mem_of_getElem? (i := 15) rfl))) (List.mem_cons_of_mem _ (List.mem_append_left _ (List.mem_of_getElem? (i := 16) rfl))) (List.mem_cons_of_mem _ (List.mem_append_left _ (List.mem_of_getElem? (i := 5) rfl))) (gi_sub (fun w h => (List.mem_cons_of_mem _ (List.mem_append_right _ (List.mem_append_right _ (List.mem_append_right _ (List.mem_append_right _ (List.mem_append_right _ (List.mem_append_left _ h)))))))) zg_j178_X12_costOf)) rfl rfl rfl (by decide +kernel) ⟨Nat.le_of_ble_eq_true rfl, Nat.le_of_ble_eq_true rfl⟩ 0 rfl rfl rfl rfl (Nat.le_of_ble_eq_true rfl) ⟨Nat.le_of_ble_eq_true rfl, Nat.le_of_ble_eq_true rfl⟩ dX12_laysRow_96 (fun v ty' w' hp hk' => ?_)
            obtain ⟨y30190, hC, rfl, rfl⟩ := hp
            replace hF := FE.lt hF (fe_s hC)
            show GW κ 5 0 0 (wM r g I29931 A29931 L29931) 99 [(4, .int y30186), (3, .int x29927), (2, .int x29928), (0, .ref (r 0)), (1, .int z1)] [.int y30190, .int y30186, .int y30189, .ref (r 22)]
            have b30191l := Int32.le_toInt y30186
            have b30191h := Int32.toInt_lt y30186
            have b30192l := Int32.le_toInt y30190
            have b30192h := Int32.toInt_lt y30190
            refine g_iadd hk dX12_laysRow_99 ?_
            refine g_topi (fun y30193 ey30193 => ?_)
            replace hF := FE.lt hF ey30193
            refine sM_21 (j := y30189.toNatClampNeg) hk (vp_in_iff.mpr ⟨by omega, by omega⟩) rfl dX12_laysRow_100 ?_
            refine g_iload_n hk dX12_laysRow_101 rfl ?_
            refine g_aload_n hk dX12_laysRow_102 rfl ?_
            refine gM_r0_40 hk hin12 (List.mem_cons_of_mem _ (List.mem_append_left _ (List.mem_of_getElem? (i := 11) rfl))) dX12_laysRow_103 ?_
            refine g_bipush (v := 16) hk dX12_laysRow_106 (by decide) ?_
            refine g_iload_n hk dX12_laysRow_108 rfl ?_
            refine g_imul hk dX12_laysRow_109 ?_
            refine g_topi (fun y30194 ey30194 => ?_)
            replace hF := FE.lt hF ey30194
            have hy30194 : y30194.toInt = 16 * z1.toInt := i32_mul ey30194 rfl rfl (by omega) (by omega)
            refine g_iload_n hk dX12_laysRow_110 rfl ?_
            refine g_iadd hk dX12_laysRow_111 ?_
            refine g_topi (fun y30195 ey30195 => ?_)
            replace hF := FE.lt hF ey30195
            have hy30195 : y30195.toInt = y30194.toInt + x29927.toInt := i32_add ey30195 rfl rfl (by omega) (by omega)
            refine lM_21 hk (vp_in_iff.mpr ⟨by omega, by omega⟩) rfl dX12_laysRow_112 ?_
            refine g_topi (fun y30196 ey30196 => ?_)
            replace hF := FE.lt hF ey30196
            refine g_callS (n := 2) hk (j177_X12_least l D zt r g I29931 (up3 A29931 21 (y30189.toNatClampNeg) y30193) L29931 x29928 y30196 ⟨(IvM_f1 (I := I29931) (A := A29931) hV29931), (IvM_f2 (I := I29931) (A := A29931) hV29931), (IvM_f3 (I := I29931) (A := A29931) hV29931), (IvM_f4 (I := I29931) (A := A29931) hV29931), (IvM_f6 (I := I29931) (A := A29931) hV29931), (IvM_f8 (I := I29931) (A := A29931) hV29931), (IvM_f15 (I := I29931) (A := A29931) hV29931), (IvM_f16 (I := I29931) (A := A29931) hV29931), (IvM_f17 (I := I29931) (A := A29931) hV29931), (IvM_f18 (I := I29931) (A := A29931) hV29931), (IvM_f22 (I := I29931) (A := A29931) hV29931), (IvM_f23 (I := I29931) (A := A29931) hV29931), (IvM_f24 (I := I29931) (A := A29931) hV29931), (IvM_a11 (I := I29931) (A := A29931) hV29931), (IvM_a26 (I := I29931) (A := A29931) hV29931), (IvM_s8_0 (I := I29931) (A := A29931) hV29931), (IvM_s8_1 (I := I29931) (A := A29931) hV29931), (IvM_s10_0 (I := I29931) (A := A29931) hV29931), (IvM_s10_1 (I := I29931) (A := A29931) hV29931), (IvM_s17_0 (I := I29931) (A := A29931) hV29931), (IvM_s17_164 (I := I29931) (A := A29931) hV29931), (IvM_lv (I := I29931) (A := A29931) hV29931), (IvM_sd (I := I29931) (A := A29931) hV29931), (IvM_nq (I := I29931) (A := A29931) hV29931), (IvM_hr (I := I29931) (A := A29931) hV29931), (IvM_hh (I := I29931) (A := A29931) hV29931), trivial⟩) (SP.same _) (fun _ h => h) (gi_S (List.mem_cons_of_mem _ (List.mem_append_left _ (List.mem_of_getElem? (i := 9) rfl))) (List.mem_cons_of_mem _ (List.mem_append_left _ (List.mem_of_getElem? (i := 10) rfl))) (List.mem_cons_of_mem _ (List.mem_append_left _ (List.mem_of_getElem? (i := 5) rfl))) (gi_sub (fun w h => (List.mem_cons_of_mem _ (List.mem_append_right _ (List.mem_append_right _ (List.mem_append_right _ (List.mem_append_right _ (List.mem_append_left _ h))))))) zg_j177_X12_least)) rfl rfl rfl (by decide +kernel) ⟨Nat.le_of_ble_eq_true rfl, Nat.le_of_ble_eq_true rfl⟩ rfl rfl (Nat.le_of_ble_eq_true rfl) ⟨Nat.le_of_ble_eq_true rfl, Nat.le_of_ble_eq_true rfl⟩ dX12_laysRow_113 (fun v ty' w' hp hk' => ?_)
            obtain ⟨y30197, hC, rfl, rfl⟩ := hp
            replace hF := FE.lt hF (fe_s hC)
            show GW κ 5 0 0 (wM r g I29931 (up3 A29931 21 (y30189.toNatClampNeg) y30193) L29931) 116 [(4, .int y30186), (3, .int x29927), (2, .int x29928), (0, .ref (r 0)), (1, .int z1)] [.int y30197]
            refine g_istore_n (lv' := [(2, .int y30197), (4, .int y30186), (3, .int x29927), (0, .ref (r 0)), (1, .int z1)]) hk dX12_laysRow_116 (by decide) rfl ?_
            refine g_aload_n hk dX12_laysRow_117 rfl ?_
            refine g_dup hk dX12_laysRow_118 rfl ?_
            refine gM_i19 (v := (I29931 19)) hk hin12 (List.mem_cons_of_mem _ (List.mem_append_left _ (List.mem_of_getElem? (i := 17) rfl))) dX12_laysRow_119 rfl ?_
            refine g_iconst (v := 1) hk dX12_laysRow_122 (by decide) ?_
            have b30198l := Int32.le_toInt (I29931 19)
            have b30198h := Int32.toInt_lt (I29931 19)
            refine g_iadd hk dX12_laysRow_123 ?_
            refine g_topi (fun y30199 ey30199 => ?_)
            replace hF := FE.lt hF ey30199
            refine pM_i19 hk hin12 (List.mem_cons_of_mem _ (List.mem_append_left _ (List.mem_of_getElem? (i := 17) rfl))) dX12_laysRow_124 ?_
            obtain ⟨y30200, ey30200⟩ : ∃ y : Int32, y = x29927 + Int32.ofInt 1 := ⟨_, rfl⟩
            replace hF := FE.lt hF ey30200
            have hy30200 : y30200.toInt = x29927.toInt + 1 := i32_add ey30200 rfl (by decide) (by omega) (by omega)
            refine g_iinc (v := y30200) (lv' := [(3, .int y30200), (2, .int y30197), (4, .int y30186), (0, .ref (r 0)), (1, .int z1)]) hk 2 dX12_laysRow_127 rfl ey30200.symm (by decide) rfl ?_
            refine g_goto (tgt := 6) hk dX12_laysRow_130 (by decide) ?_
            have b30201l := Int32.le_toInt y30197
            have b30201h := Int32.toInt_lt y30197
            exact g_lv (List.forall_mem_cons.mpr ⟨List.mem_of_getElem? (i := 0) rfl, (List.forall_mem_cons.mpr ⟨List.mem_of_getElem? (i := 1) rfl, (List.forall_mem_cons.mpr ⟨List.mem_of_getElem? (i := 3) rfl, (List.forall_mem_cons.mpr ⟨List.mem_of_getElem? (i := 4) rfl, (fun _ h => absurd h List.not_mem_nil)⟩)⟩)⟩)⟩) (ih30168 y30200 y30197 (upd I29931 19 y30199) (up3 A29931 21 (y30189.toNatClampNeg) y30193) L29931 (show Md [19] I (upd I29931 19 y30199) from Md.tr hI29931 (show Md [19] I29931 (upd I29931 19 y30199) from (Md.up Md.rf rfl)) rfl) (show Md [21] A (up3 A29931 21 (y30189.toNatClampNeg) y30193) from Md.tr hA29931 (show Md [21] A29931 (up3 A29931 21 (y30189.toNatClampNeg) y30193) from (Md.up3 Md.rf rfl)) rfl) ⟨(IvM_f1 (I := I29931) (A := A29931) hV29931), (IvM_f2 (I := I29931) (A := A29931) hV29931), (IvM_f3 (I := I29931) (A := A29931) hV29931), (IvM_f4 (I := I29931) (A := A29931) hV29931), (IvM_f6 (I := I29931) (A := A29931) hV29931), (IvM_f8 (I := I29931) (A := A29931) hV29931), (IvM_f15 (I := I29931) (A := A29931) hV29931), (IvM_f16 (I := I29931) (A := A29931) hV29931), (IvM_f17 (I := I29931) (A := A29931) hV29931), (IvM_f18 (I := I29931) (A := A29931) hV29931), (IvM_f22 (I := I29931) (A := A29931) hV29931), (IvM_f23 (I := I29931) (A := A29931) hV29931), (IvM_f24 (I := I29931) (A := A29931) hV29931), (IvM_a11 (I := I29931) (A := A29931) hV29931), (IvM_a26 (I := I29931) (A := A29931) hV29931), (IvM_s8_0 (I := I29931) (A := A29931) hV29931), (IvM_s8_1 (I := I29931) (A := A29931) hV29931), (IvM_s10_0 (I := I29931) (A := A29931) hV29931), (IvM_s10_1 (I := I29931) (A := A29931) hV29931), (IvM_s17_0 (I := I29931) (A := A29931) hV29931), (IvM_s17_164 (I := I29931) (A := A29931) hV29931), (IvM_lv (I := I29931) (A := A29931) hV29931), (IvM_sd (I := I29931) (A := A29931) hV29931), (IvM_nq (I := I29931) (A := A29931) hV29931), (IvM_hr (I := I29931) (A := A29931) hV29931), (IvM_hh (I := I29931) (A := A29931) hV29931), trivial⟩ (show L29931 = L from hL29931) (by omega) (by omega) (by omega) (by omega) hF)
          · skip
            replace hF := FE.neg hF c30187
            refine g_iload_n hk dX12_laysRow_64 rfl ?_
            refine g_if_ne (tgt := 71) (a := x29927.toInt) hk dX12_laysRow_65 (by decide) rfl (fun c30202 => ?_) (fun c30202 => ?_)
            · skip
              replace hF := FE.pos hF c30202
              refine g_aload_n hk dX12_laysRow_71 rfl ?_
              refine gM_r0_40 hk hin12 (List.mem_cons_of_mem _ (List.mem_append_left _ (List.mem_of_getElem? (i := 11) rfl))) dX12_laysRow_72 ?_
              refine g_bipush (v := 16) hk dX12_laysRow_75 (by decide) ?_
              refine g_iload_n hk dX12_laysRow_77 rfl ?_
              refine g_imul hk dX12_laysRow_78 ?_
              refine g_topi (fun y30203 ey30203 => ?_)
              replace hF := FE.lt hF ey30203
              have hy30203 : y30203.toInt = 16 * z1.toInt := i32_mul ey30203 rfl rfl (by omega) (by omega)
              refine g_iload_n hk dX12_laysRow_79 rfl ?_
              refine g_iadd hk dX12_laysRow_80 ?_
              refine g_topi (fun y30204 ey30204 => ?_)
              replace hF := FE.lt hF ey30204
              have hy30204 : y30204.toInt = y30203.toInt + x29927.toInt := i32_add ey30204 rfl rfl (by omega) (by omega)
              refine g_iload hk dX12_laysRow_81 rfl ?_
              refine g_aload_n hk dX12_laysRow_83 rfl ?_
              refine g_aload_n hk dX12_laysRow_84 rfl ?_
              refine gM_r0_38 hk hin12 (List.mem_cons_of_mem _ (List.mem_append_left _ (List.mem_of_getElem? (i := 12) rfl))) dX12_laysRow_85 ?_
              refine g_iload_n hk dX12_laysRow_88 rfl ?_
              refine lM_19 (v := (A 19 z1.toNatClampNeg)) hk (vp_in_iff.mpr ⟨by omega, by omega⟩) (congrFun (hA29931 19 rfl) _) dX12_laysRow_89 ?_
              refine g_aload_n hk dX12_laysRow_90 rfl ?_
              refine gM_r0_39 hk hin12 (List.mem_cons_of_mem _ (List.mem_append_left _ (List.mem_of_getElem? (i := 13) rfl))) dX12_laysRow_91 ?_
              refine g_iload_n hk dX12_laysRow_94 rfl ?_
              refine lM_20 (v := (A 20 x29927.toNatClampNeg)) hk (vp_in_iff.mpr ⟨by omega, by omega⟩) (congrFun (hA29931 20 rfl) _) dX12_laysRow_95 ?_
              refine g_callV (n := 2) hk (j178_X12_costOf l D zt r g I29931 A29931 L29931 (A 19 z1.toNatClampNeg) (A 20 x29927.toNatClampNeg) hV29931) (SP.same _) (fun _ h => h) (gi_V (List.mem_cons_of_mem _ (List.mem_append_left _ (List.mem_of_getElem? (i := 14) rfl))) (List.mem_cons_of_mem _ (List.mem_append_left _ (List.mem_of_getElem? (i := 15) rfl))) (List.mem_cons_of_mem _ (List.mem_append_left _ (List.mem_of_getElem? (i := 16) rfl))) (List.mem_cons_of_mem _ (List.mem_append_left _ (List.mem_of_getElem? (i := 5) rfl))) (gi_sub (fun w h => (List.mem_cons_of_mem _ (List.mem_append_right _ (List.mem_append_right _ (List.mem_append_right _ (List.mem_append_right _ (List.mem_append_right _ (List.mem_append_left _ h)))))))) zg_j178_X12_costOf)) rfl rfl rfl (by decide +kernel) ⟨Nat.le_of_ble_eq_true rfl, Nat.le_of_ble_eq_true rfl⟩ 0 rfl rfl rfl rfl (Nat.le_of_ble_eq_true rfl) ⟨Nat.le_of_ble_eq_true rfl, Nat.le_of_ble_eq_true rfl⟩ dX12_laysRow_96 (fun v ty' w' hp hk' => ?_)
              obtain ⟨y30205, hC, rfl, rfl⟩ := hp
              replace hF := FE.lt hF (fe_s hC)
              show GW κ 5 0 0 (wM r g I29931 A29931 L29931) 99 [(4, .int y30186), (3, .int x29927), (2, .int x29928), (0, .ref (r 0)), (1, .int z1)] [.int y30205, .int y30186, .int y30204, .ref (r 22)]
              have b30206l := Int32.le_toInt y30186
              have b30206h := Int32.toInt_lt y30186
              have b30207l := Int32.le_toInt y30205
              have b30207h := Int32.toInt_lt y30205
              refine g_iadd hk dX12_laysRow_99 ?_
              refine g_topi (fun y30208 ey30208 => ?_)
              replace hF := FE.lt hF ey30208
              refine sM_21 (j := y30204.toNatClampNeg) hk (vp_in_iff.mpr ⟨by omega, by omega⟩) rfl dX12_laysRow_100 ?_
              refine g_iload_n hk dX12_laysRow_101 rfl ?_
              refine g_aload_n hk dX12_laysRow_102 rfl ?_
              refine gM_r0_40 hk hin12 (List.mem_cons_of_mem _ (List.mem_append_left _ (List.mem_of_getElem? (i := 11) rfl))) dX12_laysRow_103 ?_
              refine g_bipush (v := 16) hk dX12_laysRow_106 (by decide) ?_
              refine g_iload_n hk dX12_laysRow_108 rfl ?_
              refine g_imul hk dX12_laysRow_109 ?_
              refine g_topi (fun y30209 ey30209 => ?_)
              replace hF := FE.lt hF ey30209
              have hy30209 : y30209.toInt = 16 * z1.toInt := i32_mul ey30209 rfl rfl (by omega) (by omega)
              refine g_iload_n hk dX12_laysRow_110 rfl ?_
              refine g_iadd hk dX12_laysRow_111 ?_
              refine g_topi (fun y30210 ey30210 => ?_)
              replace hF := FE.lt hF ey30210
              have hy30210 : y30210.toInt = y30209.toInt + x29927.toInt := i32_add ey30210 rfl rfl (by omega) (by omega)
              refine lM_21 hk (vp_in_iff.mpr ⟨by omega, by omega⟩) rfl dX12_laysRow_112 ?_
              refine g_topi (fun y30211 ey30211 => ?_)
              replace hF := FE.lt hF ey30211
              refine g_callS (n := 2) hk (j177_X12_least l D zt r g I29931 (up3 A29931 21 (y30204.toNatClampNeg) y30208) L29931 x29928 y30211 ⟨(IvM_f1 (I := I29931) (A := A29931) hV29931), (IvM_f2 (I := I29931) (A := A29931) hV29931), (IvM_f3 (I := I29931) (A := A29931) hV29931), (IvM_f4 (I := I29931) (A := A29931) hV29931), (IvM_f6 (I := I29931) (A := A29931) hV29931), (IvM_f8 (I := I29931) (A := A29931) hV29931), (IvM_f15 (I := I29931) (A := A29931) hV29931), (IvM_f16 (I := I29931) (A := A29931) hV29931), (IvM_f17 (I := I29931) (A := A29931) hV29931), (IvM_f18 (I := I29931) (A := A29931) hV29931), (IvM_f22 (I := I29931) (A := A29931) hV29931), (IvM_f23 (I := I29931) (A := A29931) hV29931), (IvM_f24 (I := I29931) (A := A29931) hV29931), (IvM_a11 (I := I29931) (A := A29931) hV29931), (IvM_a26 (I := I29931) (A := A29931) hV29931), (IvM_s8_0 (I := I29931) (A := A29931) hV29931), (IvM_s8_1 (I := I29931) (A := A29931) hV29931), (IvM_s10_0 (I := I29931) (A := A29931) hV29931), (IvM_s10_1 (I := I29931) (A := A29931) hV29931), (IvM_s17_0 (I := I29931) (A := A29931) hV29931), (IvM_s17_164 (I := I29931) (A := A29931) hV29931), (IvM_lv (I := I29931) (A := A29931) hV29931), (IvM_sd (I := I29931) (A := A29931) hV29931), (IvM_nq (I := I29931) (A := A29931) hV29931), (IvM_hr (I := I29931) (A := A29931) hV29931), (IvM_hh (I := I29931) (A := A29931) hV29931), trivial⟩) (SP.same _) (fun _ h => h) (gi_S (List.mem_cons_of_mem _ (List.mem_append_left _ (List.mem_of_getElem? (i := 9) rfl))) (List.mem_cons_of_mem _ (List.mem_append_left _ (List.mem_of_getElem? (i := 10) rfl))) (List.mem_cons_of_mem _ (List.mem_append_left _ (List.mem_of_getElem? (i := 5) rfl))) (gi_sub (fun w h => (List.mem_cons_of_mem _ (List.mem_append_right _ (List.mem_append_right _ (List.mem_append_right _ (List.mem_append_right _ (List.mem_append_left _ h))))))) zg_j177_X12_least)) rfl rfl rfl (by decide +kernel) ⟨Nat.le_of_ble_eq_true rfl, Nat.le_of_ble_eq_true rfl⟩ rfl rfl (Nat.le_of_ble_eq_true rfl) ⟨Nat.le_of_ble_eq_true rfl, Nat.le_of_ble_eq_true rfl⟩ dX12_laysRow_113 (fun v ty' w' hp hk' => ?_)
              obtain ⟨y30212, hC, rfl, rfl⟩ := hp
              replace hF := FE.lt hF (fe_s hC)
              show GW κ 5 0 0 (wM r g I29931 (up3 A29931 21 (y30204.toNatClampNeg) y30208) L29931) 116 [(4, .int y30186), (3, .int x29927), (2, .int x29928), (0, .ref (r 0)), (1, .int z1)] [.int y30212]
              refine g_istore_n (lv' := [(2, .int y30212), (4, .int y30186), (3, .int x29927), (0, .ref (r 0)), (1, .int z1)]) hk dX12_laysRow_116 (by decide) rfl ?_
              refine g_aload_n hk dX12_laysRow_117 rfl ?_
              refine g_dup hk dX12_laysRow_118 rfl ?_
              refine gM_i19 (v := (I29931 19)) hk hin12 (List.mem_cons_of_mem _ (List.mem_append_left _ (List.mem_of_getElem? (i := 17) rfl))) dX12_laysRow_119 rfl ?_
              refine g_iconst (v := 1) hk dX12_laysRow_122 (by decide) ?_
              have b30213l := Int32.le_toInt (I29931 19)
              have b30213h := Int32.toInt_lt (I29931 19)
              refine g_iadd hk dX12_laysRow_123 ?_
              refine g_topi (fun y30214 ey30214 => ?_)
              replace hF := FE.lt hF ey30214
              refine pM_i19 hk hin12 (List.mem_cons_of_mem _ (List.mem_append_left _ (List.mem_of_getElem? (i := 17) rfl))) dX12_laysRow_124 ?_
              obtain ⟨y30215, ey30215⟩ : ∃ y : Int32, y = x29927 + Int32.ofInt 1 := ⟨_, rfl⟩
              replace hF := FE.lt hF ey30215
              have hy30215 : y30215.toInt = x29927.toInt + 1 := i32_add ey30215 rfl (by decide) (by omega) (by omega)
              refine g_iinc (v := y30215) (lv' := [(3, .int y30215), (2, .int y30212), (4, .int y30186), (0, .ref (r 0)), (1, .int z1)]) hk 2 dX12_laysRow_127 rfl ey30215.symm (by decide) rfl ?_
              refine g_goto (tgt := 6) hk dX12_laysRow_130 (by decide) ?_
              have b30216l := Int32.le_toInt y30212
              have b30216h := Int32.toInt_lt y30212
              exact g_lv (List.forall_mem_cons.mpr ⟨List.mem_of_getElem? (i := 0) rfl, (List.forall_mem_cons.mpr ⟨List.mem_of_getElem? (i := 1) rfl, (List.forall_mem_cons.mpr ⟨List.mem_of_getElem? (i := 3) rfl, (List.forall_mem_cons.mpr ⟨List.mem_of_getElem? (i := 4) rfl, (fun _ h => absurd h List.not_mem_nil)⟩)⟩)⟩)⟩) (ih30168 y30215 y30212 (upd I29931 19 y30214) (up3 A29931 21 (y30204.toNatClampNeg) y30208) L29931 (show Md [19] I (upd I29931 19 y30214) from Md.tr hI29931 (show Md [19] I29931 (upd I29931 19 y30214) from (Md.up Md.rf rfl)) rfl) (show Md [21] A (up3 A29931 21 (y30204.toNatClampNeg) y30208) from Md.tr hA29931 (show Md [21] A29931 (up3 A29931 21 (y30204.toNatClampNeg) y30208) from (Md.up3 Md.rf rfl)) rfl) ⟨(IvM_f1 (I := I29931) (A := A29931) hV29931), (IvM_f2 (I := I29931) (A := A29931) hV29931), (IvM_f3 (I := I29931) (A := A29931) hV29931), (IvM_f4 (I := I29931) (A := A29931) hV29931), (IvM_f6 (I := I29931) (A := A29931) hV29931), (IvM_f8 (I := I29931) (A := A29931) hV29931), (IvM_f15 (I := I29931) (A := A29931) hV29931), (IvM_f16 (I := I29931) (A := A29931) hV29931), (IvM_f17 (I := I29931) (A := A29931) hV29931), (IvM_f18 (I := I29931) (A := A29931) hV29931), (IvM_f22 (I := I29931) (A := A29931) hV29931), (IvM_f23 (I := I29931) (A := A29931) hV29931), (IvM_f24 (I := I29931) (A := A29931) hV29931), (IvM_a11 (I := I29931) (A := A29931) hV29931), (IvM_a26 (I := I29931) (A := A29931) hV29931), (IvM_s8_0 (I := I29931) (A := A29931) hV29931), (IvM_s8_1 (I := I29931) (A := A29931) hV29931), (IvM_s10_0 (I := I29931) (A := A29931) hV29931), (IvM_s10_1 (I := I29931) (A := A29931) hV29931), (IvM_s17_0 (I := I29931) (A := A29931) hV29931), (IvM_s17_164 (I := I29931) (A := A29931) hV29931), (IvM_lv (I := I29931) (A := A29931) hV29931), (IvM_sd (I := I29931) (A := A29931) hV29931), (IvM_nq (I := I29931) (A := A29931) hV29931), (IvM_hr (I := I29931) (A := A29931) hV29931), (IvM_hh (I := I29931) (A := A29931) hV29931), trivial⟩ (show L29931 = L from hL29931) (by omega) (by omega) (by omega) (by omega) hF)
            · skip
              replace hF := FE.neg hF c30202
              refine g_iconst (v := 0) hk dX12_laysRow_68 (by decide) ?_
              refine g_istore (lv' := [(4, .int 0), (3, .int x29927), (2, .int x29928), (0, .ref (r 0)), (1, .int z1)]) hk dX12_laysRow_69 (by decide) rfl ?_
              refine g_aload_n hk dX12_laysRow_71 rfl ?_
              refine gM_r0_40 hk hin12 (List.mem_cons_of_mem _ (List.mem_append_left _ (List.mem_of_getElem? (i := 11) rfl))) dX12_laysRow_72 ?_
              refine g_bipush (v := 16) hk dX12_laysRow_75 (by decide) ?_
              refine g_iload_n hk dX12_laysRow_77 rfl ?_
              refine g_imul hk dX12_laysRow_78 ?_
              refine g_topi (fun y30217 ey30217 => ?_)
              replace hF := FE.lt hF ey30217
              have hy30217 : y30217.toInt = 16 * z1.toInt := i32_mul ey30217 rfl rfl (by omega) (by omega)
              refine g_iload_n hk dX12_laysRow_79 rfl ?_
              refine g_iadd hk dX12_laysRow_80 ?_
              refine g_topi (fun y30218 ey30218 => ?_)
              replace hF := FE.lt hF ey30218
              have hy30218 : y30218.toInt = y30217.toInt + x29927.toInt := i32_add ey30218 rfl rfl (by omega) (by omega)
              refine g_iload hk dX12_laysRow_81 rfl ?_
              refine g_aload_n hk dX12_laysRow_83 rfl ?_
              refine g_aload_n hk dX12_laysRow_84 rfl ?_
              refine gM_r0_38 hk hin12 (List.mem_cons_of_mem _ (List.mem_append_left _ (List.mem_of_getElem? (i := 12) rfl))) dX12_laysRow_85 ?_
              refine g_iload_n hk dX12_laysRow_88 rfl ?_
              refine lM_19 (v := (A 19 z1.toNatClampNeg)) hk (vp_in_iff.mpr ⟨by omega, by omega⟩) (congrFun (hA29931 19 rfl) _) dX12_laysRow_89 ?_
              refine g_aload_n hk dX12_laysRow_90 rfl ?_
              refine gM_r0_39 hk hin12 (List.mem_cons_of_mem _ (List.mem_append_left _ (List.mem_of_getElem? (i := 13) rfl))) dX12_laysRow_91 ?_
              refine g_iload_n hk dX12_laysRow_94 rfl ?_
              refine lM_20 (v := (A 20 x29927.toNatClampNeg)) hk (vp_in_iff.mpr ⟨by omega, by omega⟩) (congrFun (hA29931 20 rfl) _) dX12_laysRow_95 ?_
              refine g_callV (n := 2) hk (j178_X12_costOf l D zt r g I29931 A29931 L29931 (A 19 z1.toNatClampNeg) (A 20 x29927.toNatClampNeg) hV29931) (SP.same _) (fun _ h => h) (gi_V (List.mem_cons_of_mem _ (List.mem_append_left _ (List.mem_of_getElem? (i := 14) rfl))) (List.mem_cons_of_mem _ (List.mem_append_left _ (List.mem_of_getElem? (i := 15) rfl))) (List.mem_cons_of_mem _ (List.mem_append_left _ (List.mem_of_getElem? (i := 16) rfl))) (List.mem_cons_of_mem _ (List.mem_append_left _ (List.mem_of_getElem? (i := 5) rfl))) (gi_sub (fun w h => (List.mem_cons_of_mem _ (List.mem_append_right _ (List.mem_append_right _ (List.mem_append_right _ (List.mem_append_right _ (List.mem_append_right _ (List.mem_append_left _ h)))))))) zg_j178_X12_costOf)) rfl rfl rfl (by decide +kernel) ⟨Nat.le_of_ble_eq_true rfl, Nat.le_of_ble_eq_true rfl⟩ 0 rfl rfl rfl rfl (Nat.le_of_ble_eq_true rfl) ⟨Nat.le_of_ble_eq_true rfl, Nat.le_of_ble_eq_true rfl⟩ dX12_laysRow_96 (fun v ty' w' hp hk' => ?_)
              obtain ⟨y30219, hC, rfl, rfl⟩ := hp
              replace hF := FE.lt hF (fe_s hC)
              show GW κ 5 0 0 (wM r g I29931 A29931 L29931) 99 [(4, .int 0), (3, .int x29927), (2, .int x29928), (0, .ref (r 0)), (1, .int z1)] [.int y30219, .int 0, .int y30218, .ref (r 22)]
              have b30220l := Int32.le_toInt y30219
              have b30220h := Int32.toInt_lt y30219
              refine g_iadd hk dX12_laysRow_99 ?_
              refine g_topi (fun y30221 ey30221 => ?_)
              replace hF := FE.lt hF ey30221
              have hy30221 : y30221.toInt = 0 + y30219.toInt := i32_add ey30221 rfl rfl (by omega) (by omega)
              refine sM_21 (j := y30218.toNatClampNeg) hk (vp_in_iff.mpr ⟨by omega, by omega⟩) rfl dX12_laysRow_100 ?_
              refine g_iload_n hk dX12_laysRow_101 rfl ?_
              refine g_aload_n hk dX12_laysRow_102 rfl ?_
              refine gM_r0_40 hk hin12 (List.mem_cons_of_mem _ (List.mem_append_left _ (List.mem_of_getElem? (i := 11) rfl))) dX12_laysRow_103 ?_
              refine g_bipush (v := 16) hk dX12_laysRow_106 (by decide) ?_
              refine g_iload_n hk dX12_laysRow_108 rfl ?_
              refine g_imul hk dX12_laysRow_109 ?_
              refine g_topi (fun y30222 ey30222 => ?_)
              replace hF := FE.lt hF ey30222
              have hy30222 : y30222.toInt = 16 * z1.toInt := i32_mul ey30222 rfl rfl (by omega) (by omega)
              refine g_iload_n hk dX12_laysRow_110 rfl ?_
              refine g_iadd hk dX12_laysRow_111 ?_
              refine g_topi (fun y30223 ey30223 => ?_)
              replace hF := FE.lt hF ey30223
              have hy30223 : y30223.toInt = y30222.toInt + x29927.toInt := i32_add ey30223 rfl rfl (by omega) (by omega)
              refine lM_21 hk (vp_in_iff.mpr ⟨by omega, by omega⟩) rfl dX12_laysRow_112 ?_
              refine g_topi (fun y30224 ey30224 => ?_)
              replace hF := FE.lt hF ey30224
              refine g_callS (n := 2) hk (j177_X12_least l D zt r g I29931 (up3 A29931 21 (y30218.toNatClampNeg) y30221) L29931 x29928 y30224 ⟨(IvM_f1 (I := I29931) (A := A29931) hV29931), (IvM_f2 (I := I29931) (A := A29931) hV29931), (IvM_f3 (I := I29931) (A := A29931) hV29931), (IvM_f4 (I := I29931) (A := A29931) hV29931), (IvM_f6 (I := I29931) (A := A29931) hV29931), (IvM_f8 (I := I29931) (A := A29931) hV29931), (IvM_f15 (I := I29931) (A := A29931) hV29931), (IvM_f16 (I := I29931) (A := A29931) hV29931), (IvM_f17 (I := I29931) (A := A29931) hV29931), (IvM_f18 (I := I29931) (A := A29931) hV29931), (IvM_f22 (I := I29931) (A := A29931) hV29931), (IvM_f23 (I := I29931) (A := A29931) hV29931), (IvM_f24 (I := I29931) (A := A29931) hV29931), (IvM_a11 (I := I29931) (A := A29931) hV29931), (IvM_a26 (I := I29931) (A := A29931) hV29931), (IvM_s8_0 (I := I29931) (A := A29931) hV29931), (IvM_s8_1 (I := I29931) (A := A29931) hV29931), (IvM_s10_0 (I := I29931) (A := A29931) hV29931), (IvM_s10_1 (I := I29931) (A := A29931) hV29931), (IvM_s17_0 (I := I29931) (A := A29931) hV29931), (IvM_s17_164 (I := I29931) (A := A29931) hV29931), (IvM_lv (I := I29931) (A := A29931) hV29931), (IvM_sd (I := I29931) (A := A29931) hV29931), (IvM_nq (I := I29931) (A := A29931) hV29931), (IvM_hr (I := I29931) (A := A29931) hV29931), (IvM_hh (I := I29931) (A := A29931) hV29931), trivial⟩) (SP.same _) (fun _ h => h) (gi_S (List.mem_cons_of_mem _ (List.mem_append_left _ (List.mem_of_getElem? (i := 9) rfl))) (List.mem_cons_of_mem _ (List.mem_append_left _ (List.mem_of_getElem? (i := 10) rfl))) (List.mem_cons_of_mem _ (List.mem_append_left _ (List.mem_of_getElem? (i := 5) rfl))) (gi_sub (fun w h => (List.mem_cons_of_mem _ (List.mem_append_right _ (List.mem_append_right _ (List.mem_append_right _ (List.mem_append_right _ (List.mem_append_left _ h))))))) zg_j177_X12_least)) rfl rfl rfl (by decide +kernel) ⟨Nat.le_of_ble_eq_true rfl, Nat.le_of_ble_eq_true rfl⟩ rfl rfl (Nat.le_of_ble_eq_true rfl) ⟨Nat.le_of_ble_eq_true rfl, Nat.le_of_ble_eq_true rfl⟩ dX12_laysRow_113 (fun v ty' w' hp hk' => ?_)
              obtain ⟨y30225, hC, rfl, rfl⟩ := hp
              replace hF := FE.lt hF (fe_s hC)
              show GW κ 5 0 0 (wM r g I29931 (up3 A29931 21 (y30218.toNatClampNeg) y30221) L29931) 116 [(4, .int 0), (3, .int x29927), (2, .int x29928), (0, .ref (r 0)), (1, .int z1)] [.int y30225]
              refine g_istore_n (lv' := [(2, .int y30225), (4, .int 0), (3, .int x29927), (0, .ref (r 0)), (1, .int z1)]) hk dX12_laysRow_116 (by decide) rfl ?_
              refine g_aload_n hk dX12_laysRow_117 rfl ?_
              refine g_dup hk dX12_laysRow_118 rfl ?_
              refine gM_i19 (v := (I29931 19)) hk hin12 (List.mem_cons_of_mem _ (List.mem_append_left _ (List.mem_of_getElem? (i := 17) rfl))) dX12_laysRow_119 rfl ?_
              refine g_iconst (v := 1) hk dX12_laysRow_122 (by decide) ?_
              have b30226l := Int32.le_toInt (I29931 19)
              have b30226h := Int32.toInt_lt (I29931 19)
              refine g_iadd hk dX12_laysRow_123 ?_
              refine g_topi (fun y30227 ey30227 => ?_)
              replace hF := FE.lt hF ey30227
              refine pM_i19 hk hin12 (List.mem_cons_of_mem _ (List.mem_append_left _ (List.mem_of_getElem? (i := 17) rfl))) dX12_laysRow_124 ?_
              obtain ⟨y30228, ey30228⟩ : ∃ y : Int32, y = x29927 + Int32.ofInt 1 := ⟨_, rfl⟩
              replace hF := FE.lt hF ey30228
              have hy30228 : y30228.toInt = x29927.toInt + 1 := i32_add ey30228 rfl (by decide) (by omega) (by omega)
              refine g_iinc (v := y30228) (lv' := [(3, .int y30228), (2, .int y30225), (4, .int 0), (0, .ref (r 0)), (1, .int z1)]) hk 2 dX12_laysRow_127 rfl ey30228.symm (by decide) rfl ?_
              refine g_goto (tgt := 6) hk dX12_laysRow_130 (by decide) ?_
              have b30229l := Int32.le_toInt y30225
              have b30229h := Int32.toInt_lt y30225
              exact g_lv (List.forall_mem_cons.mpr ⟨List.mem_of_getElem? (i := 0) rfl, (List.forall_mem_cons.mpr ⟨List.mem_of_getElem? (i := 1) rfl, (List.forall_mem_cons.mpr ⟨List.mem_of_getElem? (i := 3) rfl, (List.forall_mem_cons.mpr ⟨List.mem_of_getElem? (i := 4) rfl, (fun _ h => absurd h List.not_mem_nil)⟩)⟩)⟩)⟩) (ih30168 y30228 y30225 (upd I29931 19 y30227) (up3 A29931 21 (y30218.toNatClampNeg) y30221) L29931 (show Md [19] I (upd I29931 19 y30227) from Md.tr hI29931 (show Md [19] I29931 (upd I29931 19 y30227) from (Md.up Md.rf rfl)) rfl) (show Md [21] A (up3 A29931 21 (y30218.toNatClampNeg) y30221) from Md.tr hA29931 (show Md [21] A29931 (up3 A29931 21 (y30218.toNatClampNeg) y30221) from (Md.up3 Md.rf rfl)) rfl) ⟨(IvM_f1 (I := I29931) (A := A29931) hV29931), (IvM_f2 (I := I29931) (A := A29931) hV29931), (IvM_f3 (I := I29931) (A := A29931) hV29931), (IvM_f4 (I := I29931) (A := A29931) hV29931), (IvM_f6 (I := I29931) (A := A29931) hV29931), (IvM_f8 (I := I29931) (A := A29931) hV29931), (IvM_f15 (I := I29931) (A := A29931) hV29931), (IvM_f16 (I := I29931) (A := A29931) hV29931), (IvM_f17 (I := I29931) (A := A29931) hV29931), (IvM_f18 (I := I29931) (A := A29931) hV29931), (IvM_f22 (I := I29931) (A := A29931) hV29931), (IvM_f23 (I := I29931) (A := A29931) hV29931), (IvM_f24 (I := I29931) (A := A29931) hV29931), (IvM_a11 (I := I29931) (A := A29931) hV29931), (IvM_a26 (I := I29931) (A := A29931) hV29931), (IvM_s8_0 (I := I29931) (A := A29931) hV29931), (IvM_s8_1 (I := I29931) (A := A29931) hV29931), (IvM_s10_0 (I := I29931) (A := A29931) hV29931), (IvM_s10_1 (I := I29931) (A := A29931) hV29931), (IvM_s17_0 (I := I29931) (A := A29931) hV29931), (IvM_s17_164 (I := I29931) (A := A29931) hV29931), (IvM_lv (I := I29931) (A := A29931) hV29931), (IvM_sd (I := I29931) (A := A29931) hV29931), (IvM_nq (I := I29931) (A := A29931) hV29931), (IvM_hr (I := I29931) (A := A29931) hV29931), (IvM_hh (I := I29931) (A := A29931) hV29931), trivial⟩ (show L29931 = L from hL29931) (by omega) (by omega) (by omega) (by omega) hF)
  have k30230 : (0 : Int32).toInt = 0 := rfl
  have k30231 : (2000000000 : Int32).toInt = 2000000000 := rfl
  have b30233 := Int32.le_toInt (0 : Int32)
  have b30234 := Int32.toInt_lt (0 : Int32)
  have n30232a : 17 - (0 : Int32).toInt < (FU : Int) := by have := FU_eq; omega
  have n30232b : 0 < FU := by have := FU_eq; omega
  exact lp30164 FU 0 2000000000 I A L Md.rf Md.rf hIv rfl (by omega) (by omega) n30232a n30232b hF
noncomputable def bM12_laysTable_12 (I : Nat → Int32) (z1 : Int32) : (Int32 → (Nat → Int32) → (Nat → Nat → Int32) → (Nat → Nat → Int64) → (Int32 × (Nat → Int32) × (Nat → Nat → Int32) × (Nat → Nat → Int64))) → Int32 → (Nat → Int32) → (Nat → Nat → Int32) → (Nat → Nat → Int64) → (Int32 × (Nat → Int32) × (Nat → Nat → Int32) × (Nat → Nat → Int64)) := fun kk30280 x29892 I29895 A29895 L29895 => if (I 18).toInt ≤ x29892.toInt then f_lt ((I 18) - (1 : Int32)) fun y30284 => f_lt ((I 18) - (1 : Int32)) fun y30285 => f_lt (fM12_atTable I29895 A29895 L29895 y30284 y30285) fun y30286 => (y30286, I29895, A29895, L29895) else f_bdM (fM12_laysRow I29895 A29895 L29895 x29892) fun y30288 I30289 A30289 L30289 => if z1.toInt ≤ y30288.toInt then (2000000000, (upd I30289 20 x29892), A30289, L30289) else f_lt (x29892 + Int32.ofInt 1) fun y30293 => kk30280 y30293 I30289 A30289 L30289
noncomputable def fM12_laysTable (I : Nat → Int32) (A : Nat → Nat → Int32) (L : Nat → Nat → Int64) (z1 : Int32) : Int32 × (Nat → Int32) × (Nat → Nat → Int32) × (Nat → Nat → Int64) := itr_iIAL dfM (bM12_laysTable_12 I z1) FU 0 (upd (upd I 19 0) 20 (-1)) A L
def wo_j173_X12_laysTable : List Cond := [Cond.fieldLink RX12 292 "WarpDeskModel" "laid" "I", Cond.fieldLink RX12 295 "WarpDeskModel" "brokeAt" "I", Cond.fieldLink RX12 267 "WarpDeskModel" "wide" "I", Cond.methodLink RX12 283 yX12_atTable, Cond.instanceMethod yX12_atTable, Cond.selects RX12 yX12_atTable yX12_atTable, Cond.initialized RX12, Cond.methodLink RX12 298 yX12_laysRow, Cond.instanceMethod yX12_laysRow, Cond.selects RX12 yX12_laysRow yX12_laysRow, Cond.constant RX12 282 (2000000000)]
def wz_j173_X12_laysTable : List Cond := .code yX12_laysTable cX12_laysTable 3 (some .int) :: (wo_j173_X12_laysTable ++ (wsX120 ++ (wz_j174_X12_atTable ++ (wz_j176_X12_laysRow ++ ([] : List Cond)))))
theorem zg_j173_X12_laysTable : ∀ w ∈ wz_j173_X12_laysTable, goodWord w = true := zg_cons rfl (zg_app (by decide +kernel) (zg_app zgU_wsX120 (zg_app zg_j174_X12_atTable (zg_app zg_j176_X12_laysRow zg_nil))))
theorem zi_j173_X12_laysTable : ∀ w ∈ wz_j173_X12_laysTable, w ∈ lw_tbl := zi_cons zw_1779 (zi_app (zi_cons zw_1419 (zi_cons zw_1420 (zi_cons zw_1415 (zi_cons zw_1788 (zi_cons zw_1790 (zi_cons zw_86 (zi_cons zw_115 (zi_cons zw_1780 (zi_cons zw_1782 (zi_cons zw_84 (zi_cons zw_1775 zi_nil))))))))))) (zi_app inX12 (zi_app zi_j174_X12_atTable (zi_app zi_j176_X12_laysRow zi_nil))))
set_option maxHeartbeats 4000000 in
set_option maxRecDepth 100000 in
theorem j173_X12_laysTable (l : Launch) (D : va_G) (zt : Nat × Nat × Nat × (Nat → Nat) × (Nat → Nat)) (r : Nat → Nat) (g : Nat → ClassId) (I : Nat → Int32) (A : Nat → Nat → Int32) (L : Nat → Nat → Int64) (z1 : Int32) (hIv : IvM I A) : GM l D zt (tyM g) yX12_laysTable wz_j173_X12_laysTable ({ frames := 4, cells := 0, slots := 0, locals := 90 } : Room) [.ref (r 0), .int z1] (wM r g I A L) (fun v _ w' => ∃ (I' : Nat → Int32) (A' : Nat → Nat → Int32) (L' : Nat → Nat → Int64), Md [19, 20] I I' ∧ Md [21] A A' ∧ IvM I' A' ∧ ∃ y0 : Int32, (L' = L) ∧ FE (fM12_laysTable I A L z1) (y0, I', A', L') ∧ v = some (.int y0) ∧ w' = wM r g I' A' L') 0 0 := by
  refine GM.of (cc := cX12_laysTable) (maxL := 3) (ret := (some .int)) (own := RX12) (lv := [(0, .ref (r 0)), (1, .int z1)]) (by decide) rfl rfl (Nat.le_of_ble_eq_true rfl) rfl (fun κ sz hk hR hN => ?_)
  have hin12 : ∀ w ∈ u_ws RX12 TX12 55, w ∈ wz_j173_X12_laysTable := fun w h => (List.mem_cons_of_mem _ (List.mem_append_right _ (List.mem_append_left _ h)))
  have hF : FE (fM12_laysTable I A L z1) (fM12_laysTable I A L z1) := FE.rf
  refine g_aload_n hk dX12_laysTable_0 rfl ?_
  refine g_iconst (v := 0) hk dX12_laysTable_1 (by decide) ?_
  refine pM_i19 hk hin12 (List.mem_cons_of_mem _ (List.mem_append_left _ (List.mem_of_getElem? (i := 0) rfl))) dX12_laysTable_2 ?_
  refine g_aload_n hk dX12_laysTable_5 rfl ?_
  refine g_iconst (v := (-1)) hk dX12_laysTable_6 (by decide) ?_
  refine pM_i20 hk hin12 (List.mem_cons_of_mem _ (List.mem_append_left _ (List.mem_of_getElem? (i := 1) rfl))) dX12_laysTable_7 ?_
  refine g_iconst (v := 0) hk dX12_laysTable_10 (by decide) ?_
  refine g_istore_n (lv' := [(2, .int 0), (0, .ref (r 0)), (1, .int z1)]) hk dX12_laysTable_11 (by decide) rfl ?_
  have lp30277 : ∀ (n30278 : Nat) (x29892 : Int32) (I29895 : Nat → Int32) (A29895 : Nat → Nat → Int32) (L29895 : Nat → Nat → Int64), (Md [19] (upd (upd I 19 0) 20 (-1)) I29895) → (Md [21] A A29895) → (IvM I29895 A29895) → (L29895 = L) → (0 ≤ x29892.toInt) → (x29892.toInt ≤ 16) → (17 - x29892.toInt < (n30278 : Int)) → (0 < n30278) → (FE (fM12_laysTable I A L z1) (itr_iIAL dfM (bM12_laysTable_12 I z1) n30278 x29892 I29895 A29895 L29895)) → GW κ 3 0 0 (wM r g I29895 A29895 L29895) 12 [(2, .int x29892), (0, .ref (r 0)), (1, .int z1)] [] := by
    intro n30278
    induction n30278 with
    | zero =>
      intro x29892 I29895 A29895 L29895 hI29895 hA29895 hV29895 hL29895 h30275 h30276 m30279 m30279z hF
      exact absurd m30279z (Nat.lt_irrefl 0)
    | succ n30278 ih30281 =>
      intro x29892 I29895 A29895 L29895 hI29895 hA29895 hV29895 hL29895 h30275 h30276 m30279 m30279z hF
      replace hF := FE.itr_iIAL hF
      refine g_iload_n hk dX12_laysTable_12 rfl ?_
      refine g_aload_n hk dX12_laysTable_13 rfl ?_
      refine gM_i18 (v := (I 18)) hk hin12 (List.mem_cons_of_mem _ (List.mem_append_left _ (List.mem_of_getElem? (i := 2) rfl))) dX12_laysTable_14 (hI29895 18 rfl) ?_
      have f30282 := IvM_f18 hIv
      refine g_icmp_ge (tgt := 47) (a := x29892.toInt) (b := (I 18).toInt) hk dX12_laysTable_17 (by decide) rfl rfl (fun c30283 => ?_) (fun c30283 => ?_)
      · skip
        replace hF := FE.pos hF c30283
        refine g_aload_n hk dX12_laysTable_47 rfl ?_
        refine g_aload_n hk dX12_laysTable_48 rfl ?_
        refine gM_i18 (v := (I 18)) hk hin12 (List.mem_cons_of_mem _ (List.mem_append_left _ (List.mem_of_getElem? (i := 2) rfl))) dX12_laysTable_49 (hI29895 18 rfl) ?_
        refine g_iconst (v := 1) hk dX12_laysTable_52 (by decide) ?_
        refine g_isub hk dX12_laysTable_53 ?_
        refine g_topi (fun y30284 ey30284 => ?_)
        replace hF := FE.lt hF ey30284
        have hy30284 : y30284.toInt = (I 18).toInt - 1 := i32_sub ey30284 rfl rfl (by omega) (by omega)
        refine g_aload_n hk dX12_laysTable_54 rfl ?_
        refine gM_i18 (v := (I 18)) hk hin12 (List.mem_cons_of_mem _ (List.mem_append_left _ (List.mem_of_getElem? (i := 2) rfl))) dX12_laysTable_55 (hI29895 18 rfl) ?_
        refine g_iconst (v := 1) hk dX12_laysTable_58 (by decide) ?_
        refine g_isub hk dX12_laysTable_59 ?_
        refine g_topi (fun y30285 ey30285 => ?_)
        replace hF := FE.lt hF ey30285
        have hy30285 : y30285.toInt = (I 18).toInt - 1 := i32_sub ey30285 rfl rfl (by omega) (by omega)
        refine g_callV (n := 2) hk (j174_X12_atTable l D zt r g I29895 A29895 L29895 y30284 y30285 hV29895 (by omega) (by omega) (by omega) (by omega)) (SP.same _) (fun _ h => h) (gi_V (List.mem_cons_of_mem _ (List.mem_append_left _ (List.mem_of_getElem? (i := 3) rfl))) (List.mem_cons_of_mem _ (List.mem_append_left _ (List.mem_of_getElem? (i := 4) rfl))) (List.mem_cons_of_mem _ (List.mem_append_left _ (List.mem_of_getElem? (i := 5) rfl))) (List.mem_cons_of_mem _ (List.mem_append_left _ (List.mem_of_getElem? (i := 6) rfl))) (gi_sub (fun w h => (List.mem_cons_of_mem _ (List.mem_append_right _ (List.mem_append_right _ (List.mem_append_left _ h))))) zg_j174_X12_atTable)) rfl rfl rfl (by decide +kernel) ⟨Nat.le_of_ble_eq_true rfl, Nat.le_of_ble_eq_true rfl⟩ 0 rfl rfl rfl rfl (Nat.le_of_ble_eq_true rfl) ⟨Nat.le_of_ble_eq_true rfl, Nat.le_of_ble_eq_true rfl⟩ dX12_laysTable_60 (fun v ty' w' hp hk' => ?_)
        obtain ⟨y30286, hC, rfl, rfl⟩ := hp
        replace hF := FE.lt hF (fe_s hC)
        show GW κ 3 0 0 (wM r g I29895 A29895 L29895) 63 [(2, .int x29892), (0, .ref (r 0)), (1, .int z1)] [.int y30286]
        have b30287l := Int32.le_toInt y30286
        have b30287h := Int32.toInt_lt y30286
        exact g_iret hk hR rfl ⟨I29895, A29895, L29895, (show Md [19, 20] I I29895 from (Md.tr (Md.up (Md.up Md.rf rfl) rfl) hI29895 rfl)), (show Md [21] A A29895 from (Md.tr Md.rf hA29895 rfl)), hV29895, y30286, (show L29895 = L from hL29895), hF, rfl, rfl⟩ dX12_laysTable_63
      · skip
        replace hF := FE.neg hF c30283
        refine g_aload_n hk dX12_laysTable_20 rfl ?_
        refine g_iload_n hk dX12_laysTable_21 rfl ?_
        refine g_callV (n := 1) hk (j176_X12_laysRow l D zt r g I29895 A29895 L29895 x29892 hV29895 (by omega) (by omega)) (SP.same _) (fun _ h => h) (gi_V (List.mem_cons_of_mem _ (List.mem_append_left _ (List.mem_of_getElem? (i := 7) rfl))) (List.mem_cons_of_mem _ (List.mem_append_left _ (List.mem_of_getElem? (i := 8) rfl))) (List.mem_cons_of_mem _ (List.mem_append_left _ (List.mem_of_getElem? (i := 9) rfl))) (List.mem_cons_of_mem _ (List.mem_append_left _ (List.mem_of_getElem? (i := 6) rfl))) (gi_sub (fun w h => (List.mem_cons_of_mem _ (List.mem_append_right _ (List.mem_append_right _ (List.mem_append_right _ (List.mem_append_left _ h)))))) zg_j176_X12_laysRow)) rfl rfl rfl (by decide +kernel) ⟨Nat.le_of_ble_eq_true rfl, Nat.le_of_ble_eq_true rfl⟩ 0 rfl rfl rfl rfl (Nat.le_of_ble_eq_true rfl) ⟨Nat.le_of_ble_eq_true rfl, Nat.le_of_ble_eq_true rfl⟩ dX12_laysTable_22 (fun v ty' w' hp hk' => ?_)
        obtain ⟨I30289, A30289, L30289, hI30289, hA30289, hV30289, y30288, hL30289, hC, rfl, rfl⟩ := hp
        replace hF := FE.bdM hF hC
        show GW κ 3 0 0 (wM r g I30289 A30289 L30289) 25 [(2, .int x29892), (0, .ref (r 0)), (1, .int z1)] [.int y30288]
        refine g_iload_n hk dX12_laysTable_25 rfl ?_
        have b30290l := Int32.le_toInt y30288
        have b30290h := Int32.toInt_lt y30288
        have b30291l := Int32.le_toInt z1
        have b30291h := Int32.toInt_lt z1
        refine g_icmp_ge (tgt := 32) (a := y30288.toInt) (b := z1.toInt) hk dX12_laysTable_26 (by decide) rfl rfl (fun c30292 => ?_) (fun c30292 => ?_)
        · skip
          replace hF := FE.pos hF c30292
          refine g_aload_n hk dX12_laysTable_32 rfl ?_
          refine g_iload_n hk dX12_laysTable_33 rfl ?_
          refine pM_i20 hk hin12 (List.mem_cons_of_mem _ (List.mem_append_left _ (List.mem_of_getElem? (i := 1) rfl))) dX12_laysTable_34 ?_
          refine g_ldcw (v := 2000000000) hk (List.mem_cons_of_mem _ (List.mem_append_left _ (List.mem_of_getElem? (i := 10) rfl))) dX12_laysTable_37 ?_
          exact g_iret hk hR rfl ⟨(upd I30289 20 x29892), A30289, L30289, (show Md [19, 20] I (upd I30289 20 x29892) from (Md.up (Md.tr (Md.tr (Md.up (Md.up Md.rf rfl) rfl) hI29895 rfl) hI30289 rfl) rfl)), (show Md [21] A A30289 from (Md.tr (Md.tr Md.rf hA29895 rfl) hA30289 rfl)), ⟨(IvM_f1 (I := I30289) (A := A30289) hV30289), (IvM_f2 (I := I30289) (A := A30289) hV30289), (IvM_f3 (I := I30289) (A := A30289) hV30289), (IvM_f4 (I := I30289) (A := A30289) hV30289), (IvM_f6 (I := I30289) (A := A30289) hV30289), (IvM_f8 (I := I30289) (A := A30289) hV30289), (IvM_f15 (I := I30289) (A := A30289) hV30289), (IvM_f16 (I := I30289) (A := A30289) hV30289), (IvM_f17 (I := I30289) (A := A30289) hV30289), (IvM_f18 (I := I30289) (A := A30289) hV30289), (IvM_f22 (I := I30289) (A := A30289) hV30289), (IvM_f23 (I := I30289) (A := A30289) hV30289), (IvM_f24 (I := I30289) (A := A30289) hV30289), (IvM_a11 (I := I30289) (A := A30289) hV30289), (IvM_a26 (I := I30289) (A := A30289) hV30289), (IvM_s8_0 (I := I30289) (A := A30289) hV30289), (IvM_s8_1 (I := I30289) (A := A30289) hV30289), (IvM_s10_0 (I := I30289) (A := A30289) hV30289), (IvM_s10_1 (I := I30289) (A := A30289) hV30289), (IvM_s17_0 (I := I30289) (A := A30289) hV30289), (IvM_s17_164 (I := I30289) (A := A30289) hV30289), (IvM_lv (I := I30289) (A := A30289) hV30289), (IvM_sd (I := I30289) (A := A30289) hV30289), (IvM_nq (I := I30289) (A := A30289) hV30289), (IvM_hr (I := I30289) (A := A30289) hV30289), (IvM_hh (I := I30289) (A := A30289) hV30289), trivial⟩, 2000000000, (show L30289 = L from (hL30289.trans hL29895)), hF, rfl, rfl⟩ dX12_laysTable_40
        · skip
          replace hF := FE.neg hF c30292
          refine g_goto (tgt := 41) hk dX12_laysTable_29 (by decide) ?_
          obtain ⟨y30293, ey30293⟩ : ∃ y : Int32, y = x29892 + Int32.ofInt 1 := ⟨_, rfl⟩
          replace hF := FE.lt hF ey30293
          have hy30293 : y30293.toInt = x29892.toInt + 1 := i32_add ey30293 rfl (by decide) (by omega) (by omega)
          refine g_iinc (v := y30293) (lv' := [(2, .int y30293), (0, .ref (r 0)), (1, .int z1)]) hk 0 dX12_laysTable_41 rfl ey30293.symm (by decide) rfl ?_
          refine g_goto (tgt := 12) hk dX12_laysTable_44 (by decide) ?_
          exact g_lv (List.forall_mem_cons.mpr ⟨List.mem_of_getElem? (i := 0) rfl, (List.forall_mem_cons.mpr ⟨List.mem_of_getElem? (i := 1) rfl, (List.forall_mem_cons.mpr ⟨List.mem_of_getElem? (i := 2) rfl, (fun _ h => absurd h List.not_mem_nil)⟩)⟩)⟩) (ih30281 y30293 I30289 A30289 L30289 (show Md [19] (upd (upd I 19 0) 20 (-1)) I30289 from Md.tr hI29895 (show Md [19] I29895 I30289 from (Md.tr Md.rf hI30289 rfl)) rfl) (show Md [21] A A30289 from Md.tr hA29895 (show Md [21] A29895 A30289 from (Md.tr Md.rf hA30289 rfl)) rfl) hV30289 (show L30289 = L from (hL30289.trans hL29895)) (by omega) (by omega) (by omega) (by omega) hF)
  have k30294 : (0 : Int32).toInt = 0 := rfl
  have b30296 := Int32.le_toInt (0 : Int32)
  have b30297 := Int32.toInt_lt (0 : Int32)
  have n30295a : 17 - (0 : Int32).toInt < (FU : Int) := by have := FU_eq; omega
  have n30295b : 0 < FU := by have := FU_eq; omega
  exact lp30277 FU 0 (upd (upd I 19 0) 20 (-1)) A L Md.rf Md.rf ⟨(IvM_f1 (I := I) (A := A) hIv), (IvM_f2 (I := I) (A := A) hIv), (IvM_f3 (I := I) (A := A) hIv), (IvM_f4 (I := I) (A := A) hIv), (IvM_f6 (I := I) (A := A) hIv), (IvM_f8 (I := I) (A := A) hIv), (IvM_f15 (I := I) (A := A) hIv), (IvM_f16 (I := I) (A := A) hIv), (IvM_f17 (I := I) (A := A) hIv), (IvM_f18 (I := I) (A := A) hIv), (IvM_f22 (I := I) (A := A) hIv), (IvM_f23 (I := I) (A := A) hIv), (IvM_f24 (I := I) (A := A) hIv), (IvM_a11 (I := I) (A := A) hIv), (IvM_a26 (I := I) (A := A) hIv), (IvM_s8_0 (I := I) (A := A) hIv), (IvM_s8_1 (I := I) (A := A) hIv), (IvM_s10_0 (I := I) (A := A) hIv), (IvM_s10_1 (I := I) (A := A) hIv), (IvM_s17_0 (I := I) (A := A) hIv), (IvM_s17_164 (I := I) (A := A) hIv), (IvM_lv (I := I) (A := A) hIv), (IvM_sd (I := I) (A := A) hIv), (IvM_nq (I := I) (A := A) hIv), (IvM_hr (I := I) (A := A) hIv), (IvM_hh (I := I) (A := A) hIv), trivial⟩ rfl (by omega) (by omega) n30295a n30295b hF
noncomputable def fM12_distanceOf (I : Nat → Int32) (A : Nat → Nat → Int32) (L : Nat → Nat → Int64) (z1 : Int32) (z2 : Int32) : Int32 × (Nat → Int32) × (Nat → Nat → Int32) × (Nat → Nat → Int64) := f_bdM (fM12_laysBoth I A L z1 z2) fun _ I29889 A29889 L29889 => f_bdM (fM12_laysTable I29889 A29889 L29889 2000000000) fun y30299 I30300 A30300 L30300 => (y30299, I30300, A30300, L30300)
def wo_j169_X12_distanceOf : List Cond := [Cond.methodLink RX12 301 yX12_laysBoth, Cond.instanceMethod yX12_laysBoth, Cond.selects RX12 yX12_laysBoth yX12_laysBoth, Cond.initialized RX12, Cond.constant RX12 282 (2000000000), Cond.methodLink RX12 304 yX12_laysTable, Cond.instanceMethod yX12_laysTable, Cond.selects RX12 yX12_laysTable yX12_laysTable]
def wz_j169_X12_distanceOf : List Cond := .code yX12_distanceOf cX12_distanceOf 3 (some .int) :: (wo_j169_X12_distanceOf ++ (wz_j170_X12_laysBoth ++ (wz_j173_X12_laysTable ++ ([] : List Cond))))
theorem zg_j169_X12_distanceOf : ∀ w ∈ wz_j169_X12_distanceOf, goodWord w = true := zg_cons rfl (zg_app (by decide +kernel) (zg_app zg_j170_X12_laysBoth (zg_app zg_j173_X12_laysTable zg_nil)))
theorem zi_j169_X12_distanceOf : ∀ w ∈ wz_j169_X12_distanceOf, w ∈ lw_tbl := zi_cons zw_1762 (zi_app (zi_cons zw_1763 (zi_cons zw_1765 (zi_cons zw_80 (zi_cons zw_115 (zi_cons zw_1775 (zi_cons zw_1776 (zi_cons zw_1778 (zi_cons zw_83 zi_nil)))))))) (zi_app zi_j170_X12_laysBoth (zi_app zi_j173_X12_laysTable zi_nil)))
set_option maxHeartbeats 4000000 in
set_option maxRecDepth 100000 in
theorem j169_X12_distanceOf (l : Launch) (D : va_G) (zt : Nat × Nat × Nat × (Nat → Nat) × (Nat → Nat)) (r : Nat → Nat) (g : Nat → ClassId) (I : Nat → Int32) (A : Nat → Nat → Int32) (L : Nat → Nat → Int64) (z1 : Int32) (z2 : Int32) (hIv : IvM I A) (hp0 : 0 ≤ z1.toInt) (hp1 : z1.toInt ≤ 4) (hp2 : 0 ≤ z2.toInt) (hp3 : z2.toInt ≤ 159) (hp4 : 1 ≤ (A 11 (5 * (I 15) + z1).toNatClampNeg).toInt) (hp5 : z2.toInt + (A 11 (5 * (I 15) + z1).toNatClampNeg).toInt ≤ 160) : GM l D zt (tyM g) yX12_distanceOf wz_j169_X12_distanceOf ({ frames := 5, cells := 0, slots := 0, locals := 112 } : Room) [.ref (r 0), .int z1, .int z2] (wM r g I A L) (fun v _ w' => ∃ (I' : Nat → Int32) (A' : Nat → Nat → Int32) (L' : Nat → Nat → Int64), Md [18, 19, 20] I I' ∧ Md [19, 20, 21] A A' ∧ IvM I' A' ∧ ∃ y0 : Int32, (1 ≤ (I' 18).toInt) ∧ (L' = L) ∧ FE (fM12_distanceOf I A L z1 z2) (y0, I', A', L') ∧ v = some (.int y0) ∧ w' = wM r g I' A' L') 0 0 := by
  refine GM.of (cc := cX12_distanceOf) (maxL := 3) (ret := (some .int)) (own := RX12) (lv := [(0, .ref (r 0)), (1, .int z1), (2, .int z2)]) (by decide) rfl rfl (Nat.le_of_ble_eq_true rfl) rfl (fun κ sz hk hR hN => ?_)
  have hF : FE (fM12_distanceOf I A L z1 z2) (fM12_distanceOf I A L z1 z2) := FE.rf
  refine g_aload_n hk dX12_distanceOf_0 rfl ?_
  refine g_iload_n hk dX12_distanceOf_1 rfl ?_
  refine g_iload_n hk dX12_distanceOf_2 rfl ?_
  have f29887 : 0 ≤ (A 11 (5 * (I 15) + z1).toNatClampNeg).toInt ∧ (A 11 (5 * (I 15) + z1).toNatClampNeg).toInt ≤ 16 := IvM_a11 hIv _
  refine g_callV (n := 2) hk (j170_X12_laysBoth l D zt r g I A L z1 z2 hIv (by omega) (by omega) (by omega) (by omega) (by omega) (by omega)) (SP.same _) (fun _ h => h) (gi_V (List.mem_cons_of_mem _ (List.mem_append_left _ (List.mem_of_getElem? (i := 0) rfl))) (List.mem_cons_of_mem _ (List.mem_append_left _ (List.mem_of_getElem? (i := 1) rfl))) (List.mem_cons_of_mem _ (List.mem_append_left _ (List.mem_of_getElem? (i := 2) rfl))) (List.mem_cons_of_mem _ (List.mem_append_left _ (List.mem_of_getElem? (i := 3) rfl))) (gi_sub (fun w h => (List.mem_cons_of_mem _ (List.mem_append_right _ (List.mem_append_left _ h)))) zg_j170_X12_laysBoth)) rfl rfl rfl (by decide +kernel) ⟨Nat.le_of_ble_eq_true rfl, Nat.le_of_ble_eq_true rfl⟩ 0 rfl rfl rfl rfl (Nat.le_of_ble_eq_true rfl) ⟨Nat.le_of_ble_eq_true rfl, Nat.le_of_ble_eq_true rfl⟩ dX12_distanceOf_3 (fun v ty' w' hp hk' => ?_)
  obtain ⟨I29889, A29889, L29889, hI29889, hA29889, hV29889, r29890, hL29889, hC, rfl, rfl⟩ := hp
  replace hF := FE.bdM hF hC
  have f29891 := IvM_f18 hV29889
  show GW κ 3 0 0 (wM r g I29889 A29889 L29889) 6 [(0, .ref (r 0)), (1, .int z1), (2, .int z2)] []
  refine g_aload_n hk dX12_distanceOf_6 rfl ?_
  refine g_ldcw (v := 2000000000) hk (List.mem_cons_of_mem _ (List.mem_append_left _ (List.mem_of_getElem? (i := 4) rfl))) dX12_distanceOf_7 ?_
  have k30298 : (2000000000 : Int32).toInt = 2000000000 := rfl
  refine g_callV (n := 1) hk (j173_X12_laysTable l D zt r g I29889 A29889 L29889 2000000000 hV29889) (SP.same _) (fun _ h => h) (gi_V (List.mem_cons_of_mem _ (List.mem_append_left _ (List.mem_of_getElem? (i := 5) rfl))) (List.mem_cons_of_mem _ (List.mem_append_left _ (List.mem_of_getElem? (i := 6) rfl))) (List.mem_cons_of_mem _ (List.mem_append_left _ (List.mem_of_getElem? (i := 7) rfl))) (List.mem_cons_of_mem _ (List.mem_append_left _ (List.mem_of_getElem? (i := 3) rfl))) (gi_sub (fun w h => (List.mem_cons_of_mem _ (List.mem_append_right _ (List.mem_append_right _ (List.mem_append_left _ h))))) zg_j173_X12_laysTable)) rfl rfl rfl (by decide +kernel) ⟨Nat.le_of_ble_eq_true rfl, Nat.le_of_ble_eq_true rfl⟩ 0 rfl rfl rfl rfl (Nat.le_of_ble_eq_true rfl) ⟨Nat.le_of_ble_eq_true rfl, Nat.le_of_ble_eq_true rfl⟩ dX12_distanceOf_10 (fun v ty' w' hp hk' => ?_)
  obtain ⟨I30300, A30300, L30300, hI30300, hA30300, hV30300, y30299, hL30300, hC, rfl, rfl⟩ := hp
  replace hF := FE.bdM hF hC
  show GW κ 3 0 0 (wM r g I30300 A30300 L30300) 13 [(0, .ref (r 0)), (1, .int z1), (2, .int z2)] [.int y30299]
  have b30301l := Int32.le_toInt y30299
  have b30301h := Int32.toInt_lt y30299
  exact g_iret hk hR rfl ⟨I30300, A30300, L30300, (show Md [18, 19, 20] I I30300 from (Md.tr (Md.tr Md.rf hI29889 rfl) hI30300 rfl)), (show Md [19, 20, 21] A A30300 from (Md.tr (Md.tr Md.rf hA29889 rfl) hA30300 rfl)), hV30300, y30299, (by rw [show (I30300 18) = (I29889 18) from (hI30300 18 rfl)] <;> omega), (show L30300 = L from (hL30300.trans hL29889)), hF, rfl, rfl⟩ dX12_distanceOf_13
noncomputable def fM12_distance (I : Nat → Int32) (A : Nat → Nat → Int32) (L : Nat → Nat → Int64) (z1 : Int32) (z2 : Int32) : Int32 × (Nat → Int32) × (Nat → Nat → Int32) × (Nat → Nat → Int64) := if fM12_isOf I A L z1 z2 = 0 then ((-1), I, A, L) else f_bdM (fM12_copies I A L) fun _ I29785 A29785 L29785 => f_bdM (fM12_distanceOf I29785 A29785 L29785 z1 z2) fun y30302 I30303 A30303 L30303 => (y30302, I30303, A30303, L30303)
def wo_j167_X12_distance : List Cond := [Cond.methodLink RX12 342 yX12_isOf, Cond.instanceMethod yX12_isOf, Cond.selects RX12 yX12_isOf yX12_isOf, Cond.initialized RX12, Cond.methodLink RX12 323 yX12_copies, Cond.instanceMethod yX12_copies, Cond.selects RX12 yX12_copies yX12_copies, Cond.methodLink RX12 345 yX12_distanceOf, Cond.instanceMethod yX12_distanceOf, Cond.selects RX12 yX12_distanceOf yX12_distanceOf]
def wz_j167_X12_distance : List Cond := .code yX12_distance cX12_distance 3 (some .int) :: (wo_j167_X12_distance ++ (wz_j168_X12_isOf ++ (wz_j151_X12_copies ++ (wz_j169_X12_distanceOf ++ ([] : List Cond)))))
theorem zg_j167_X12_distance : ∀ w ∈ wz_j167_X12_distance, goodWord w = true := zg_cons rfl (zg_app (by decide +kernel) (zg_app zg_j168_X12_isOf (zg_app zg_j151_X12_copies (zg_app zg_j169_X12_distanceOf zg_nil))))
theorem zi_j167_X12_distance : ∀ w ∈ wz_j167_X12_distance, w ∈ lw_tbl := zi_cons zw_1754 (zi_app (zi_cons zw_1755 (zi_cons zw_1757 (zi_cons zw_78 (zi_cons zw_115 (zi_cons zw_1679 (zi_cons zw_1681 (zi_cons zw_70 (zi_cons zw_1759 (zi_cons zw_1761 (zi_cons zw_79 zi_nil)))))))))) (zi_app zi_j168_X12_isOf (zi_app zi_j151_X12_copies (zi_app zi_j169_X12_distanceOf zi_nil))))
set_option maxHeartbeats 4000000 in
set_option maxRecDepth 100000 in
theorem j167_X12_distance (l : Launch) (D : va_G) (zt : Nat × Nat × Nat × (Nat → Nat) × (Nat → Nat)) (r : Nat → Nat) (g : Nat → ClassId) (I : Nat → Int32) (A : Nat → Nat → Int32) (L : Nat → Nat → Int64) (z1 : Int32) (z2 : Int32) (hIv : IvM I A) : GM l D zt (tyM g) yX12_distance wz_j167_X12_distance ({ frames := 6, cells := 0, slots := 0, locals := 134 } : Room) [.ref (r 0), .int z1, .int z2] (wM r g I A L) (fun v _ w' => ∃ (I' : Nat → Int32) (A' : Nat → Nat → Int32) (L' : Nat → Nat → Int64), Md [18, 19, 20] I I' ∧ Md [18, 19, 20, 21] A A' ∧ IvM I' A' ∧ ∃ y0 : Int32, (L' = L) ∧ FE (fM12_distance I A L z1 z2) (y0, I', A', L') ∧ v = some (.int y0) ∧ w' = wM r g I' A' L') 0 0 := by
  refine GM.of (cc := cX12_distance) (maxL := 3) (ret := (some .int)) (own := RX12) (lv := [(0, .ref (r 0)), (1, .int z1), (2, .int z2)]) (by decide) rfl rfl (Nat.le_of_ble_eq_true rfl) rfl (fun κ sz hk hR hN => ?_)
  have hF : FE (fM12_distance I A L z1 z2) (fM12_distance I A L z1 z2) := FE.rf
  refine g_aload_n hk dX12_distance_0 rfl ?_
  refine g_iload_n hk dX12_distance_1 rfl ?_
  refine g_iload_n hk dX12_distance_2 rfl ?_
  refine g_callV (n := 2) hk (j168_X12_isOf l D zt r g I A L z1 z2 hIv) (SP.same _) (fun _ h => h) (gi_V (List.mem_cons_of_mem _ (List.mem_append_left _ (List.mem_of_getElem? (i := 0) rfl))) (List.mem_cons_of_mem _ (List.mem_append_left _ (List.mem_of_getElem? (i := 1) rfl))) (List.mem_cons_of_mem _ (List.mem_append_left _ (List.mem_of_getElem? (i := 2) rfl))) (List.mem_cons_of_mem _ (List.mem_append_left _ (List.mem_of_getElem? (i := 3) rfl))) (gi_sub (fun w h => (List.mem_cons_of_mem _ (List.mem_append_right _ (List.mem_append_left _ h)))) zg_j168_X12_isOf)) rfl rfl rfl (by decide +kernel) ⟨Nat.le_of_ble_eq_true rfl, Nat.le_of_ble_eq_true rfl⟩ 0 rfl rfl rfl rfl (Nat.le_of_ble_eq_true rfl) ⟨Nat.le_of_ble_eq_true rfl, Nat.le_of_ble_eq_true rfl⟩ dX12_distance_3 (fun v ty' w' hp hk' => ?_)
  rcases hp with ⟨hC, rfl, rfl⟩ | ⟨c29770, c29771, c29772, c29773, c29774, c29775, c29776, c29777, c29778, c29779, c29780, c29781, hC, rfl, rfl⟩
  · skip
    replace hF := FE.pos hF hC
    show GW κ 3 0 0 (wM r g I A L) 6 [(0, .ref (r 0)), (1, .int z1), (2, .int z2)] [.int 0]
    refine g_if_ne (tgt := 11) (a := 0) hk dX12_distance_6 (by decide) rfl (fun z9 => absurd z9 (show ¬ ((0 : Int) ≠ (0 : Int)) from by decide)) (fun _ => ?_)
    refine g_iconst (v := (-1)) hk dX12_distance_9 (by decide) ?_
    exact g_iret hk hR rfl ⟨I, A, L, (show Md [18, 19, 20] I I from Md.rf), (show Md [18, 19, 20, 21] A A from Md.rf), hIv, (-1), (show L = L from rfl), hF, rfl, rfl⟩ dX12_distance_10
  · skip
    replace hF := FE.neg hF (fe_ne hC (by decide))
    have f29783 : 0 ≤ (A 11 (5 * (I 15) + z1).toNatClampNeg).toInt ∧ (A 11 (5 * (I 15) + z1).toNatClampNeg).toInt ≤ 16 := IvM_a11 hIv _
    show GW κ 3 0 0 (wM r g I A L) 6 [(0, .ref (r 0)), (1, .int z1), (2, .int z2)] [.int 1]
    refine g_if_ne (tgt := 11) (a := 1) hk dX12_distance_6 (by decide) rfl (fun _ => ?_) (fun z9 => absurd (show (1 : Int) ≠ (0 : Int) from by decide) z9)
    refine g_aload_n hk dX12_distance_11 rfl ?_
    refine g_callV (n := 0) hk (j151_X12_copies l D zt r g I A L  hIv) (SP.same _) (fun _ h => h) (gi_V (List.mem_cons_of_mem _ (List.mem_append_left _ (List.mem_of_getElem? (i := 4) rfl))) (List.mem_cons_of_mem _ (List.mem_append_left _ (List.mem_of_getElem? (i := 5) rfl))) (List.mem_cons_of_mem _ (List.mem_append_left _ (List.mem_of_getElem? (i := 6) rfl))) (List.mem_cons_of_mem _ (List.mem_append_left _ (List.mem_of_getElem? (i := 3) rfl))) (gi_sub (fun w h => (List.mem_cons_of_mem _ (List.mem_append_right _ (List.mem_append_right _ (List.mem_append_left _ h))))) zg_j151_X12_copies)) rfl rfl rfl (by decide +kernel) ⟨Nat.le_of_ble_eq_true rfl, Nat.le_of_ble_eq_true rfl⟩ 0 rfl rfl rfl rfl (Nat.le_of_ble_eq_true rfl) ⟨Nat.le_of_ble_eq_true rfl, Nat.le_of_ble_eq_true rfl⟩ dX12_distance_12 (fun v ty' w' hp hk' => ?_)
    obtain ⟨I29785, A29785, L29785, hI29785, hA29785, hV29785, r29786, r29787, hL29785, hC, rfl, rfl⟩ := hp
    replace hF := FE.bdM hF hC
    have f29788 := IvM_s17_0 hIv
    have f29789 := IvM_s17_164 hIv
    show GW κ 3 0 0 (wM r g I29785 A29785 L29785) 15 [(0, .ref (r 0)), (1, .int z1), (2, .int z2)] []
    refine g_aload_n hk dX12_distance_15 rfl ?_
    refine g_iload_n hk dX12_distance_16 rfl ?_
    refine g_iload_n hk dX12_distance_17 rfl ?_
    refine g_callV (n := 2) hk (j169_X12_distanceOf l D zt r g I29785 A29785 L29785 z1 z2 hV29785 (by omega) (by omega) (by omega) (by omega) (by first | (rw [show (A29785 11 (5 * (I29785 15) + z1).toNatClampNeg) = (A 11 (5 * (I 15) + z1).toNatClampNeg) from (by rw [show I29785 15 = (I 15) from (hI29785 15 rfl)]; exact (congrFun (hA29785 11 rfl) _))] <;> omega) | omega) (by first | (rw [show (A29785 11 (5 * (I29785 15) + z1).toNatClampNeg) = (A 11 (5 * (I 15) + z1).toNatClampNeg) from (by rw [show I29785 15 = (I 15) from (hI29785 15 rfl)]; exact (congrFun (hA29785 11 rfl) _))] <;> omega) | omega)) (SP.same _) (fun _ h => h) (gi_V (List.mem_cons_of_mem _ (List.mem_append_left _ (List.mem_of_getElem? (i := 7) rfl))) (List.mem_cons_of_mem _ (List.mem_append_left _ (List.mem_of_getElem? (i := 8) rfl))) (List.mem_cons_of_mem _ (List.mem_append_left _ (List.mem_of_getElem? (i := 9) rfl))) (List.mem_cons_of_mem _ (List.mem_append_left _ (List.mem_of_getElem? (i := 3) rfl))) (gi_sub (fun w h => (List.mem_cons_of_mem _ (List.mem_append_right _ (List.mem_append_right _ (List.mem_append_right _ (List.mem_append_left _ h)))))) zg_j169_X12_distanceOf)) rfl rfl rfl (by decide +kernel) ⟨Nat.le_of_ble_eq_true rfl, Nat.le_of_ble_eq_true rfl⟩ 0 rfl rfl rfl rfl (Nat.le_of_ble_eq_true rfl) ⟨Nat.le_of_ble_eq_true rfl, Nat.le_of_ble_eq_true rfl⟩ dX12_distance_18 (fun v ty' w' hp hk' => ?_)
    obtain ⟨I30303, A30303, L30303, hI30303, hA30303, hV30303, y30302, r30304, hL30303, hC, rfl, rfl⟩ := hp
    replace hF := FE.bdM hF hC
    have f30305 := IvM_f18 hV30303
    show GW κ 3 0 0 (wM r g I30303 A30303 L30303) 21 [(0, .ref (r 0)), (1, .int z1), (2, .int z2)] [.int y30302]
    have b30306l := Int32.le_toInt y30302
    have b30306h := Int32.toInt_lt y30302
    exact g_iret hk hR rfl ⟨I30303, A30303, L30303, (show Md [18, 19, 20] I I30303 from (Md.tr (Md.tr Md.rf hI29785 rfl) hI30303 rfl)), (show Md [18, 19, 20, 21] A A30303 from (Md.tr (Md.tr Md.rf hA29785 rfl) hA30303 rfl)), hV30303, y30302, (show L30303 = L from (hL30303.trans hL29785)), hF, rfl, rfl⟩ dX12_distance_21
noncomputable def bM12_overOf_24 (I : Nat → Int32) (A : Nat → Nat → Int32) (x30345 : Int32) (kk31115 : Int32 → Int32 → (Int32)) (x30346 : Int32) (L : Nat → Nat → Int64) : (Int32 → Int32 → Int32 → (Int32)) → Int32 → Int32 → Int32 → (Int32) := fun kk31275 x31120 x31121 x31122 => if (I 18).toInt ≤ x31120.toInt then if (A 20 x30345.toNatClampNeg).toInt ≤ x31122.toInt then if x31121.toInt ≤ (A 20 x30345.toNatClampNeg).toInt then f_lt (x30345 + Int32.ofInt 1) fun y31283 => kk31115 y31283 x30346 else f_lt (fM12_costOf I A L (A 20 x30345.toNatClampNeg) x31121) fun y31285 => f_lt (x30346 + y31285) fun y31288 => f_lt (x30345 + Int32.ofInt 1) fun y31289 => kk31115 y31289 y31288 else f_lt (fM12_costOf I A L (A 20 x30345.toNatClampNeg) x31122) fun y31291 => f_lt (x30346 + y31291) fun y31294 => if x31121.toInt ≤ (A 20 x30345.toNatClampNeg).toInt then f_lt (x30345 + Int32.ofInt 1) fun y31297 => kk31115 y31297 y31294 else f_lt (fM12_costOf I A L (A 20 x30345.toNatClampNeg) x31121) fun y31299 => f_lt (y31294 + y31299) fun y31302 => f_lt (x30345 + Int32.ofInt 1) fun y31303 => kk31115 y31303 y31302 else if fM12_isBand I A L x31120 x30345 = 0 then f_lt (x31120 + Int32.ofInt 1) fun y31309 => kk31275 y31309 x31121 x31122 else if (A 19 x31120.toNatClampNeg).toInt ≤ x31122.toInt then if x31121.toInt ≤ (A 19 x31120.toNatClampNeg).toInt then f_lt (x31120 + Int32.ofInt 1) fun y31317 => kk31275 y31317 x31121 x31122 else f_lt (x31120 + Int32.ofInt 1) fun y31318 => kk31275 y31318 (A 19 x31120.toNatClampNeg) x31122 else if x31121.toInt ≤ (A 19 x31120.toNatClampNeg).toInt then f_lt (x31120 + Int32.ofInt 1) fun y31321 => kk31275 y31321 x31121 (A 19 x31120.toNatClampNeg) else f_lt (x31120 + Int32.ofInt 1) fun y31322 => kk31275 y31322 (A 19 x31120.toNatClampNeg) (A 19 x31120.toNatClampNeg)
noncomputable def bM12_overOf_4 (I : Nat → Int32) (A : Nat → Nat → Int32) (L : Nat → Nat → Int64) : (Int32 → Int32 → (Int32)) → Int32 → Int32 → (Int32) := fun kk31115 x30345 x30346 => if (I 18).toInt ≤ x30345.toInt then x30346 else itr_iii (0 : Int32) (bM12_overOf_24 I A x30345 kk31115 x30346 L) FU 0 2000000000 (-2000000000)
noncomputable def fM12_overOf (I : Nat → Int32) (A : Nat → Nat → Int32) (L : Nat → Nat → Int64) : Int32 := itr_ii (0 : Int32) (bM12_overOf_4 I A L) FU 0 0
def wo_j181_X12_overOf : List Cond := [Cond.fieldLink RX12 267 "WarpDeskModel" "wide" "I", Cond.constant RX12 307 (-2000000000), Cond.constant RX12 282 (2000000000), Cond.methodLink RX12 279 yX12_isBand, Cond.instanceMethod yX12_isBand, Cond.selects RX12 yX12_isBand yX12_isBand, Cond.initialized RX12, Cond.fieldLink RX12 76 "WarpDeskModel" "firstAt" "[I", Cond.fieldLink RX12 79 "WarpDeskModel" "otherAt" "[I", Cond.methodLink RX12 289 yX12_costOf, Cond.instanceMethod yX12_costOf, Cond.selects RX12 yX12_costOf yX12_costOf]
def wz_j181_X12_overOf : List Cond := .code yX12_overOf cX12_overOf 6 (some .int) :: (wo_j181_X12_overOf ++ (wsX120 ++ (wz_j175_X12_isBand ++ (wz_j178_X12_costOf ++ ([] : List Cond)))))
theorem zg_j181_X12_overOf : ∀ w ∈ wz_j181_X12_overOf, goodWord w = true := zg_cons rfl (zg_app (by decide +kernel) (zg_app zgU_wsX120 (zg_app zg_j175_X12_isBand (zg_app zg_j178_X12_costOf zg_nil))))
theorem zi_j181_X12_overOf : ∀ w ∈ wz_j181_X12_overOf, w ∈ lw_tbl := zi_cons zw_1810 (zi_app (zi_cons zw_1415 (zi_cons zw_1811 (zi_cons zw_1775 (zi_cons zw_1784 (zi_cons zw_1786 (zi_cons zw_85 (zi_cons zw_115 (zi_cons zw_1416 (zi_cons zw_1417 (zi_cons zw_1795 (zi_cons zw_1797 (zi_cons zw_87 zi_nil)))))))))))) (zi_app inX12 (zi_app zi_j175_X12_isBand (zi_app zi_j178_X12_costOf zi_nil))))
set_option maxHeartbeats 4000000 in
set_option maxRecDepth 100000 in
theorem j181_X12_overOf (l : Launch) (D : va_G) (zt : Nat × Nat × Nat × (Nat → Nat) × (Nat → Nat)) (r : Nat → Nat) (g : Nat → ClassId) (I : Nat → Int32) (A : Nat → Nat → Int32) (L : Nat → Nat → Int64) (hIv : IvM I A) : GM l D zt (tyM g) yX12_overOf wz_j181_X12_overOf ({ frames := 2, cells := 0, slots := 0, locals := 44 } : Room) [.ref (r 0)] (wM r g I A L) (fun v _ w' => ∃ y0 : Int32, FE (fM12_overOf I A L) y0 ∧ v = some (.int y0) ∧ w' = wM r g I A L) 0 0 := by
  refine GM.of (cc := cX12_overOf) (maxL := 6) (ret := (some .int)) (own := RX12) (lv := [(0, .ref (r 0))]) (by decide) rfl rfl (Nat.le_of_ble_eq_true rfl) rfl (fun κ sz hk hR hN => ?_)
  have hin12 : ∀ w ∈ u_ws RX12 TX12 55, w ∈ wz_j181_X12_overOf := fun w h => (List.mem_cons_of_mem _ (List.mem_append_right _ (List.mem_append_left _ h)))
  have hF : FE (fM12_overOf I A L) (fM12_overOf I A L) := FE.rf
  refine g_iconst (v := 0) hk dX12_overOf_0 (by decide) ?_
  refine g_istore_n (lv' := [(1, .int 0), (0, .ref (r 0))]) hk dX12_overOf_1 (by decide) rfl ?_
  refine g_iconst (v := 0) hk dX12_overOf_2 (by decide) ?_
  refine g_istore_n (lv' := [(2, .int 0), (1, .int 0), (0, .ref (r 0))]) hk dX12_overOf_3 (by decide) rfl ?_
  have lp31112 : ∀ (n31113 : Nat) (x30345 : Int32) (x30346 : Int32), (0 ≤ x30345.toInt) → (x30345.toInt ≤ 16) → (17 - x30345.toInt < (n31113 : Int)) → (0 < n31113) → (FE (fM12_overOf I A L) (itr_ii (0 : Int32) (bM12_overOf_4 I A L) n31113 x30345 x30346)) → GW κ 6 0 0 (wM r g I A L) 4 [(2, .int x30345), (1, .int x30346), (0, .ref (r 0))] [] := by
    intro n31113
    induction n31113 with
    | zero =>
      intro x30345 x30346 h31110 h31111 m31114 m31114z hF
      exact absurd m31114z (Nat.lt_irrefl 0)
    | succ n31113 ih31116 =>
      intro x30345 x30346 h31110 h31111 m31114 m31114z hF
      replace hF := FE.itr_ii hF
      refine g_iload_n hk dX12_overOf_4 rfl ?_
      refine g_aload_n hk dX12_overOf_5 rfl ?_
      refine gM_i18 (v := (I 18)) hk hin12 (List.mem_cons_of_mem _ (List.mem_append_left _ (List.mem_of_getElem? (i := 0) rfl))) dX12_overOf_6 rfl ?_
      have f31117 := IvM_f18 hIv
      refine g_icmp_ge (tgt := 148) (a := x30345.toInt) (b := (I 18).toInt) hk dX12_overOf_9 (by decide) rfl rfl (fun c31118 => ?_) (fun c31118 => ?_)
      · skip
        replace hF := FE.pos hF c31118
        refine g_iload_n hk dX12_overOf_148 rfl ?_
        have b31119l := Int32.le_toInt x30346
        have b31119h := Int32.toInt_lt x30346
        exact g_iret hk hR rfl ⟨x30346, hF, rfl, rfl⟩ dX12_overOf_149
      · skip
        replace hF := FE.neg hF c31118
        refine g_ldcw (v := (-2000000000)) hk (List.mem_cons_of_mem _ (List.mem_append_left _ (List.mem_of_getElem? (i := 1) rfl))) dX12_overOf_12 ?_
        refine g_istore_n (lv' := [(3, .int (-2000000000)), (2, .int x30345), (1, .int x30346), (0, .ref (r 0))]) hk dX12_overOf_15 (by decide) rfl ?_
        refine g_ldcw (v := 2000000000) hk (List.mem_cons_of_mem _ (List.mem_append_left _ (List.mem_of_getElem? (i := 2) rfl))) dX12_overOf_16 ?_
        refine g_istore (lv' := [(4, .int 2000000000), (3, .int (-2000000000)), (2, .int x30345), (1, .int x30346), (0, .ref (r 0))]) hk dX12_overOf_19 (by decide) rfl ?_
        refine g_iconst (v := 0) hk dX12_overOf_21 (by decide) ?_
        refine g_istore (lv' := [(5, .int 0), (4, .int 2000000000), (3, .int (-2000000000)), (2, .int x30345), (1, .int x30346), (0, .ref (r 0))]) hk dX12_overOf_22 (by decide) rfl ?_
        have lp31272 : ∀ (n31273 : Nat) (x31120 : Int32) (x31121 : Int32) (x31122 : Int32), (0 ≤ x31120.toInt) → (x31120.toInt ≤ 16) → (x31121.toInt ≤ 2000000000) → ((-2000000000) ≤ x31122.toInt) → (17 - x31120.toInt < (n31273 : Int)) → (0 < n31273) → (FE (fM12_overOf I A L) (itr_iii (0 : Int32) (bM12_overOf_24 I A x30345 (itr_ii (0 : Int32) (bM12_overOf_4 I A L) n31113) x30346 L) n31273 x31120 x31121 x31122)) → GW κ 6 0 0 (wM r g I A L) 24 [(5, .int x31120), (4, .int x31121), (3, .int x31122), (2, .int x30345), (1, .int x30346), (0, .ref (r 0))] [] := by
          intro n31273
          induction n31273 with
          | zero =>
            intro x31120 x31121 x31122 h31268 h31269 h31270 h31271 m31274 m31274z hF
            exact absurd m31274z (Nat.lt_irrefl 0)
          | succ n31273 ih31276 =>
            intro x31120 x31121 x31122 h31268 h31269 h31270 h31271 m31274 m31274z hF
            replace hF := FE.itr_iii hF
            refine g_iload hk dX12_overOf_24 rfl ?_
            refine g_aload_n hk dX12_overOf_26 rfl ?_
            refine gM_i18 (v := (I 18)) hk hin12 (List.mem_cons_of_mem _ (List.mem_append_left _ (List.mem_of_getElem? (i := 0) rfl))) dX12_overOf_27 rfl ?_
            refine g_icmp_ge (tgt := 92) (a := x31120.toInt) (b := (I 18).toInt) hk dX12_overOf_30 (by decide) rfl rfl (fun c31277 => ?_) (fun c31277 => ?_)
            · skip
              replace hF := FE.pos hF c31277
              refine g_aload_n hk dX12_overOf_92 rfl ?_
              refine gM_r0_39 hk hin12 (List.mem_cons_of_mem _ (List.mem_append_left _ (List.mem_of_getElem? (i := 8) rfl))) dX12_overOf_93 ?_
              refine g_iload_n hk dX12_overOf_96 rfl ?_
              refine lM_20 (v := (A 20 x30345.toNatClampNeg)) hk (vp_in_iff.mpr ⟨by omega, by omega⟩) rfl dX12_overOf_97 ?_
              refine g_iload_n hk dX12_overOf_98 rfl ?_
              have b31278l := Int32.le_toInt (A 20 x30345.toNatClampNeg)
              have b31278h := Int32.toInt_lt (A 20 x30345.toNatClampNeg)
              have b31279l := Int32.le_toInt x31122
              have b31279h := Int32.toInt_lt x31122
              refine g_icmp_le (tgt := 116) (a := (A 20 x30345.toNatClampNeg).toInt) (b := x31122.toInt) hk dX12_overOf_99 (by decide) rfl rfl (fun c31280 => ?_) (fun c31280 => ?_)
              · skip
                replace hF := FE.pos hF c31280
                refine g_aload_n hk dX12_overOf_116 rfl ?_
                refine gM_r0_39 hk hin12 (List.mem_cons_of_mem _ (List.mem_append_left _ (List.mem_of_getElem? (i := 8) rfl))) dX12_overOf_117 ?_
                refine g_iload_n hk dX12_overOf_120 rfl ?_
                refine lM_20 (v := (A 20 x30345.toNatClampNeg)) hk (vp_in_iff.mpr ⟨by omega, by omega⟩) rfl dX12_overOf_121 ?_
                refine g_iload hk dX12_overOf_122 rfl ?_
                have b31281l := Int32.le_toInt x31121
                have b31281h := Int32.toInt_lt x31121
                refine g_icmp_ge (tgt := 142) (a := (A 20 x30345.toNatClampNeg).toInt) (b := x31121.toInt) hk dX12_overOf_124 (by decide) rfl rfl (fun c31282 => ?_) (fun c31282 => ?_)
                · skip
                  replace hF := FE.pos hF c31282
                  obtain ⟨y31283, ey31283⟩ : ∃ y : Int32, y = x30345 + Int32.ofInt 1 := ⟨_, rfl⟩
                  replace hF := FE.lt hF ey31283
                  have hy31283 : y31283.toInt = x30345.toInt + 1 := i32_add ey31283 rfl (by decide) (by omega) (by omega)
                  refine g_iinc (v := y31283) (lv' := [(2, .int y31283), (5, .int x31120), (4, .int x31121), (3, .int x31122), (1, .int x30346), (0, .ref (r 0))]) hk 3 dX12_overOf_142 rfl ey31283.symm (by decide) rfl ?_
                  refine g_goto (tgt := 4) hk dX12_overOf_145 (by decide) ?_
                  have b31284l := Int32.le_toInt x30346
                  have b31284h := Int32.toInt_lt x30346
                  exact g_lv (List.forall_mem_cons.mpr ⟨List.mem_of_getElem? (i := 0) rfl, (List.forall_mem_cons.mpr ⟨List.mem_of_getElem? (i := 4) rfl, (List.forall_mem_cons.mpr ⟨List.mem_of_getElem? (i := 5) rfl, (fun _ h => absurd h List.not_mem_nil)⟩)⟩)⟩) (ih31116 y31283 x30346 (by omega) (by omega) (by omega) (by omega) hF)
                · skip
                  replace hF := FE.neg hF c31282
                  refine g_iload_n hk dX12_overOf_127 rfl ?_
                  refine g_aload_n hk dX12_overOf_128 rfl ?_
                  refine g_aload_n hk dX12_overOf_129 rfl ?_
                  refine gM_r0_39 hk hin12 (List.mem_cons_of_mem _ (List.mem_append_left _ (List.mem_of_getElem? (i := 8) rfl))) dX12_overOf_130 ?_
                  refine g_iload_n hk dX12_overOf_133 rfl ?_
                  refine lM_20 (v := (A 20 x30345.toNatClampNeg)) hk (vp_in_iff.mpr ⟨by omega, by omega⟩) rfl dX12_overOf_134 ?_
                  refine g_iload hk dX12_overOf_135 rfl ?_
                  refine g_callV (n := 2) hk (j178_X12_costOf l D zt r g I A L (A 20 x30345.toNatClampNeg) x31121 hIv) (SP.same _) (fun _ h => h) (gi_V (List.mem_cons_of_mem _ (List.mem_append_left _ (List.mem_of_getElem? (i := 9) rfl))) (List.mem_cons_of_mem _ (List.mem_append_left _ (List.mem_of_getElem? (i := 10) rfl))) (List.mem_cons_of_mem _ (List.mem_append_left _ (List.mem_of_getElem? (i := 11) rfl))) (List.mem_cons_of_mem _ (List.mem_append_left _ (List.mem_of_getElem? (i := 6) rfl))) (gi_sub (fun w h => (List.mem_cons_of_mem _ (List.mem_append_right _ (List.mem_append_right _ (List.mem_append_right _ (List.mem_append_left _ h)))))) zg_j178_X12_costOf)) rfl rfl rfl (by decide +kernel) ⟨Nat.le_of_ble_eq_true rfl, Nat.le_of_ble_eq_true rfl⟩ 0 rfl rfl rfl rfl (Nat.le_of_ble_eq_true rfl) ⟨Nat.le_of_ble_eq_true rfl, Nat.le_of_ble_eq_true rfl⟩ dX12_overOf_137 (fun v ty' w' hp hk' => ?_)
                  obtain ⟨y31285, hC, rfl, rfl⟩ := hp
                  replace hF := FE.lt hF (fe_s hC)
                  show GW κ 6 0 0 (wM r g I A L) 140 [(5, .int x31120), (4, .int x31121), (3, .int x31122), (2, .int x30345), (1, .int x30346), (0, .ref (r 0))] [.int y31285, .int x30346]
                  have b31286l := Int32.le_toInt x30346
                  have b31286h := Int32.toInt_lt x30346
                  have b31287l := Int32.le_toInt y31285
                  have b31287h := Int32.toInt_lt y31285
                  refine g_iadd hk dX12_overOf_140 ?_
                  refine g_topi (fun y31288 ey31288 => ?_)
                  replace hF := FE.lt hF ey31288
                  refine g_istore_n (lv' := [(1, .int y31288), (5, .int x31120), (4, .int x31121), (3, .int x31122), (2, .int x30345), (0, .ref (r 0))]) hk dX12_overOf_141 (by decide) rfl ?_
                  obtain ⟨y31289, ey31289⟩ : ∃ y : Int32, y = x30345 + Int32.ofInt 1 := ⟨_, rfl⟩
                  replace hF := FE.lt hF ey31289
                  have hy31289 : y31289.toInt = x30345.toInt + 1 := i32_add ey31289 rfl (by decide) (by omega) (by omega)
                  refine g_iinc (v := y31289) (lv' := [(2, .int y31289), (1, .int y31288), (5, .int x31120), (4, .int x31121), (3, .int x31122), (0, .ref (r 0))]) hk 4 dX12_overOf_142 rfl ey31289.symm (by decide) rfl ?_
                  refine g_goto (tgt := 4) hk dX12_overOf_145 (by decide) ?_
                  have b31290l := Int32.le_toInt y31288
                  have b31290h := Int32.toInt_lt y31288
                  exact g_lv (List.forall_mem_cons.mpr ⟨List.mem_of_getElem? (i := 0) rfl, (List.forall_mem_cons.mpr ⟨List.mem_of_getElem? (i := 1) rfl, (List.forall_mem_cons.mpr ⟨List.mem_of_getElem? (i := 5) rfl, (fun _ h => absurd h List.not_mem_nil)⟩)⟩)⟩) (ih31116 y31289 y31288 (by omega) (by omega) (by omega) (by omega) hF)
              · skip
                replace hF := FE.neg hF c31280
                refine g_iload_n hk dX12_overOf_102 rfl ?_
                refine g_aload_n hk dX12_overOf_103 rfl ?_
                refine g_aload_n hk dX12_overOf_104 rfl ?_
                refine gM_r0_39 hk hin12 (List.mem_cons_of_mem _ (List.mem_append_left _ (List.mem_of_getElem? (i := 8) rfl))) dX12_overOf_105 ?_
                refine g_iload_n hk dX12_overOf_108 rfl ?_
                refine lM_20 (v := (A 20 x30345.toNatClampNeg)) hk (vp_in_iff.mpr ⟨by omega, by omega⟩) rfl dX12_overOf_109 ?_
                refine g_iload_n hk dX12_overOf_110 rfl ?_
                refine g_callV (n := 2) hk (j178_X12_costOf l D zt r g I A L (A 20 x30345.toNatClampNeg) x31122 hIv) (SP.same _) (fun _ h => h) (gi_V (List.mem_cons_of_mem _ (List.mem_append_left _ (List.mem_of_getElem? (i := 9) rfl))) (List.mem_cons_of_mem _ (List.mem_append_left _ (List.mem_of_getElem? (i := 10) rfl))) (List.mem_cons_of_mem _ (List.mem_append_left _ (List.mem_of_getElem? (i := 11) rfl))) (List.mem_cons_of_mem _ (List.mem_append_left _ (List.mem_of_getElem? (i := 6) rfl))) (gi_sub (fun w h => (List.mem_cons_of_mem _ (List.mem_append_right _ (List.mem_append_right _ (List.mem_append_right _ (List.mem_append_left _ h)))))) zg_j178_X12_costOf)) rfl rfl rfl (by decide +kernel) ⟨Nat.le_of_ble_eq_true rfl, Nat.le_of_ble_eq_true rfl⟩ 0 rfl rfl rfl rfl (Nat.le_of_ble_eq_true rfl) ⟨Nat.le_of_ble_eq_true rfl, Nat.le_of_ble_eq_true rfl⟩ dX12_overOf_111 (fun v ty' w' hp hk' => ?_)
                obtain ⟨y31291, hC, rfl, rfl⟩ := hp
                replace hF := FE.lt hF (fe_s hC)
                show GW κ 6 0 0 (wM r g I A L) 114 [(5, .int x31120), (4, .int x31121), (3, .int x31122), (2, .int x30345), (1, .int x30346), (0, .ref (r 0))] [.int y31291, .int x30346]
                have b31292l := Int32.le_toInt x30346
                have b31292h := Int32.toInt_lt x30346
                have b31293l := Int32.le_toInt y31291
                have b31293h := Int32.toInt_lt y31291
                refine g_iadd hk dX12_overOf_114 ?_
                refine g_topi (fun y31294 ey31294 => ?_)
                replace hF := FE.lt hF ey31294
                refine g_istore_n (lv' := [(1, .int y31294), (5, .int x31120), (4, .int x31121), (3, .int x31122), (2, .int x30345), (0, .ref (r 0))]) hk dX12_overOf_115 (by decide) rfl ?_
                refine g_aload_n hk dX12_overOf_116 rfl ?_
                refine gM_r0_39 hk hin12 (List.mem_cons_of_mem _ (List.mem_append_left _ (List.mem_of_getElem? (i := 8) rfl))) dX12_overOf_117 ?_
                refine g_iload_n hk dX12_overOf_120 rfl ?_
                refine lM_20 (v := (A 20 x30345.toNatClampNeg)) hk (vp_in_iff.mpr ⟨by omega, by omega⟩) rfl dX12_overOf_121 ?_
                refine g_iload hk dX12_overOf_122 rfl ?_
                have b31295l := Int32.le_toInt x31121
                have b31295h := Int32.toInt_lt x31121
                refine g_icmp_ge (tgt := 142) (a := (A 20 x30345.toNatClampNeg).toInt) (b := x31121.toInt) hk dX12_overOf_124 (by decide) rfl rfl (fun c31296 => ?_) (fun c31296 => ?_)
                · skip
                  replace hF := FE.pos hF c31296
                  obtain ⟨y31297, ey31297⟩ : ∃ y : Int32, y = x30345 + Int32.ofInt 1 := ⟨_, rfl⟩
                  replace hF := FE.lt hF ey31297
                  have hy31297 : y31297.toInt = x30345.toInt + 1 := i32_add ey31297 rfl (by decide) (by omega) (by omega)
                  refine g_iinc (v := y31297) (lv' := [(2, .int y31297), (1, .int y31294), (5, .int x31120), (4, .int x31121), (3, .int x31122), (0, .ref (r 0))]) hk 4 dX12_overOf_142 rfl ey31297.symm (by decide) rfl ?_
                  refine g_goto (tgt := 4) hk dX12_overOf_145 (by decide) ?_
                  have b31298l := Int32.le_toInt y31294
                  have b31298h := Int32.toInt_lt y31294
                  exact g_lv (List.forall_mem_cons.mpr ⟨List.mem_of_getElem? (i := 0) rfl, (List.forall_mem_cons.mpr ⟨List.mem_of_getElem? (i := 1) rfl, (List.forall_mem_cons.mpr ⟨List.mem_of_getElem? (i := 5) rfl, (fun _ h => absurd h List.not_mem_nil)⟩)⟩)⟩) (ih31116 y31297 y31294 (by omega) (by omega) (by omega) (by omega) hF)
                · skip
                  replace hF := FE.neg hF c31296
                  refine g_iload_n hk dX12_overOf_127 rfl ?_
                  refine g_aload_n hk dX12_overOf_128 rfl ?_
                  refine g_aload_n hk dX12_overOf_129 rfl ?_
                  refine gM_r0_39 hk hin12 (List.mem_cons_of_mem _ (List.mem_append_left _ (List.mem_of_getElem? (i := 8) rfl))) dX12_overOf_130 ?_
                  refine g_iload_n hk dX12_overOf_133 rfl ?_
                  refine lM_20 (v := (A 20 x30345.toNatClampNeg)) hk (vp_in_iff.mpr ⟨by omega, by omega⟩) rfl dX12_overOf_134 ?_
                  refine g_iload hk dX12_overOf_135 rfl ?_
                  refine g_callV (n := 2) hk (j178_X12_costOf l D zt r g I A L (A 20 x30345.toNatClampNeg) x31121 hIv) (SP.same _) (fun _ h => h) (gi_V (List.mem_cons_of_mem _ (List.mem_append_left _ (List.mem_of_getElem? (i := 9) rfl))) (List.mem_cons_of_mem _ (List.mem_append_left _ (List.mem_of_getElem? (i := 10) rfl))) (List.mem_cons_of_mem _ (List.mem_append_left _ (List.mem_of_getElem? (i := 11) rfl))) (List.mem_cons_of_mem _ (List.mem_append_left _ (List.mem_of_getElem? (i := 6) rfl))) (gi_sub (fun w h => (List.mem_cons_of_mem _ (List.mem_append_right _ (List.mem_append_right _ (List.mem_append_right _ (List.mem_append_left _ h)))))) zg_j178_X12_costOf)) rfl rfl rfl (by decide +kernel) ⟨Nat.le_of_ble_eq_true rfl, Nat.le_of_ble_eq_true rfl⟩ 0 rfl rfl rfl rfl (Nat.le_of_ble_eq_true rfl) ⟨Nat.le_of_ble_eq_true rfl, Nat.le_of_ble_eq_true rfl⟩ dX12_overOf_137 (fun v ty' w' hp hk' => ?_)
                  obtain ⟨y31299, hC, rfl, rfl⟩ := hp
                  replace hF := FE.lt hF (fe_s hC)
                  show GW κ 6 0 0 (wM r g I A L) 140 [(1, .int y31294), (5, .int x31120), (4, .int x31121), (3, .int x31122), (2, .int x30345), (0, .ref (r 0))] [.int y31299, .int y31294]
                  have b31300l := Int32.le_toInt y31294
                  have b31300h := Int32.toInt_lt y31294
                  have b31301l := Int32.le_toInt y31299
                  have b31301h := Int32.toInt_lt y31299
                  refine g_iadd hk dX12_overOf_140 ?_
                  refine g_topi (fun y31302 ey31302 => ?_)
                  replace hF := FE.lt hF ey31302
                  refine g_istore_n (lv' := [(1, .int y31302), (5, .int x31120), (4, .int x31121), (3, .int x31122), (2, .int x30345), (0, .ref (r 0))]) hk dX12_overOf_141 (by decide) rfl ?_
                  obtain ⟨y31303, ey31303⟩ : ∃ y : Int32, y = x30345 + Int32.ofInt 1 := ⟨_, rfl⟩
                  replace hF := FE.lt hF ey31303
                  have hy31303 : y31303.toInt = x30345.toInt + 1 := i32_add ey31303 rfl (by decide) (by omega) (by omega)
                  refine g_iinc (v := y31303) (lv' := [(2, .int y31303), (1, .int y31302), (5, .int x31120), (4, .int x31121), (3, .int x31122), (0, .ref (r 0))]) hk 4 dX12_overOf_142 rfl ey31303.symm (by decide) rfl ?_
                  refine g_goto (tgt := 4) hk dX12_overOf_145 (by decide) ?_
                  have b31304l := Int32.le_toInt y31302
                  have b31304h := Int32.toInt_lt y31302
                  exact g_lv (List.forall_mem_cons.mpr ⟨List.mem_of_getElem? (i := 0) rfl, (List.forall_mem_cons.mpr ⟨List.mem_of_getElem? (i := 1) rfl, (List.forall_mem_cons.mpr ⟨List.mem_of_getElem? (i := 5) rfl, (fun _ h => absurd h List.not_mem_nil)⟩)⟩)⟩) (ih31116 y31303 y31302 (by omega) (by omega) (by omega) (by omega) hF)
            · skip
              replace hF := FE.neg hF c31277
              refine g_aload_n hk dX12_overOf_33 rfl ?_
              refine g_iload hk dX12_overOf_34 rfl ?_
              refine g_iload_n hk dX12_overOf_36 rfl ?_
              refine g_callV (n := 2) hk (j175_X12_isBand l D zt r g I A L x31120 x30345 hIv (by omega) (by omega) (by omega) (by omega)) (SP.same _) (fun _ h => h) (gi_V (List.mem_cons_of_mem _ (List.mem_append_left _ (List.mem_of_getElem? (i := 3) rfl))) (List.mem_cons_of_mem _ (List.mem_append_left _ (List.mem_of_getElem? (i := 4) rfl))) (List.mem_cons_of_mem _ (List.mem_append_left _ (List.mem_of_getElem? (i := 5) rfl))) (List.mem_cons_of_mem _ (List.mem_append_left _ (List.mem_of_getElem? (i := 6) rfl))) (gi_sub (fun w h => (List.mem_cons_of_mem _ (List.mem_append_right _ (List.mem_append_right _ (List.mem_append_left _ h))))) zg_j175_X12_isBand)) rfl rfl rfl (by decide +kernel) ⟨Nat.le_of_ble_eq_true rfl, Nat.le_of_ble_eq_true rfl⟩ 0 rfl rfl rfl rfl (Nat.le_of_ble_eq_true rfl) ⟨Nat.le_of_ble_eq_true rfl, Nat.le_of_ble_eq_true rfl⟩ dX12_overOf_37 (fun v ty' w' hp hk' => ?_)
              rcases hp with ⟨hC, rfl, rfl⟩ | ⟨c31306, c31307, hC, rfl, rfl⟩
              · skip
                replace hF := FE.pos hF hC
                show GW κ 6 0 0 (wM r g I A L) 40 [(5, .int x31120), (4, .int x31121), (3, .int x31122), (2, .int x30345), (1, .int x30346), (0, .ref (r 0))] [.int 0]
                refine g_if_ne (tgt := 46) (a := 0) hk dX12_overOf_40 (by decide) rfl (fun z9 => absurd z9 (show ¬ ((0 : Int) ≠ (0 : Int)) from by decide)) (fun _ => ?_)
                refine g_goto (tgt := 86) hk dX12_overOf_43 (by decide) ?_
                obtain ⟨y31309, ey31309⟩ : ∃ y : Int32, y = x31120 + Int32.ofInt 1 := ⟨_, rfl⟩
                replace hF := FE.lt hF ey31309
                have hy31309 : y31309.toInt = x31120.toInt + 1 := i32_add ey31309 rfl (by decide) (by omega) (by omega)
                refine g_iinc (v := y31309) (lv' := [(5, .int y31309), (4, .int x31121), (3, .int x31122), (2, .int x30345), (1, .int x30346), (0, .ref (r 0))]) hk 0 dX12_overOf_86 rfl ey31309.symm (by decide) rfl ?_
                refine g_goto (tgt := 24) hk dX12_overOf_89 (by decide) ?_
                have b31310l := Int32.le_toInt x31121
                have b31310h := Int32.toInt_lt x31121
                have b31311l := Int32.le_toInt x31122
                have b31311h := Int32.toInt_lt x31122
                exact g_lv (List.forall_mem_cons.mpr ⟨List.mem_of_getElem? (i := 0) rfl, (List.forall_mem_cons.mpr ⟨List.mem_of_getElem? (i := 1) rfl, (List.forall_mem_cons.mpr ⟨List.mem_of_getElem? (i := 2) rfl, (List.forall_mem_cons.mpr ⟨List.mem_of_getElem? (i := 3) rfl, (List.forall_mem_cons.mpr ⟨List.mem_of_getElem? (i := 4) rfl, (List.forall_mem_cons.mpr ⟨List.mem_of_getElem? (i := 5) rfl, (fun _ h => absurd h List.not_mem_nil)⟩)⟩)⟩)⟩)⟩)⟩) (ih31276 y31309 x31121 x31122 (by omega) (by omega) (by omega) (by omega) (by omega) (by omega) hF)
              · skip
                replace hF := FE.neg hF (fe_ne hC (by decide))
                show GW κ 6 0 0 (wM r g I A L) 40 [(5, .int x31120), (4, .int x31121), (3, .int x31122), (2, .int x30345), (1, .int x30346), (0, .ref (r 0))] [.int 1]
                refine g_if_ne (tgt := 46) (a := 1) hk dX12_overOf_40 (by decide) rfl (fun _ => ?_) (fun z9 => absurd (show (1 : Int) ≠ (0 : Int) from by decide) z9)
                refine g_aload_n hk dX12_overOf_46 rfl ?_
                refine gM_r0_38 hk hin12 (List.mem_cons_of_mem _ (List.mem_append_left _ (List.mem_of_getElem? (i := 7) rfl))) dX12_overOf_47 ?_
                refine g_iload hk dX12_overOf_50 rfl ?_
                refine lM_19 (v := (A 19 x31120.toNatClampNeg)) hk (vp_in_iff.mpr ⟨by omega, by omega⟩) rfl dX12_overOf_52 ?_
                refine g_iload_n hk dX12_overOf_53 rfl ?_
                have b31312l := Int32.le_toInt (A 19 x31120.toNatClampNeg)
                have b31312h := Int32.toInt_lt (A 19 x31120.toNatClampNeg)
                have b31313l := Int32.le_toInt x31122
                have b31313h := Int32.toInt_lt x31122
                refine g_icmp_le (tgt := 65) (a := (A 19 x31120.toNatClampNeg).toInt) (b := x31122.toInt) hk dX12_overOf_54 (by decide) rfl rfl (fun c31314 => ?_) (fun c31314 => ?_)
                · skip
                  replace hF := FE.pos hF c31314
                  refine g_aload_n hk dX12_overOf_65 rfl ?_
                  refine gM_r0_38 hk hin12 (List.mem_cons_of_mem _ (List.mem_append_left _ (List.mem_of_getElem? (i := 7) rfl))) dX12_overOf_66 ?_
                  refine g_iload hk dX12_overOf_69 rfl ?_
                  refine lM_19 (v := (A 19 x31120.toNatClampNeg)) hk (vp_in_iff.mpr ⟨by omega, by omega⟩) rfl dX12_overOf_71 ?_
                  refine g_iload hk dX12_overOf_72 rfl ?_
                  have b31315l := Int32.le_toInt x31121
                  have b31315h := Int32.toInt_lt x31121
                  refine g_icmp_ge (tgt := 86) (a := (A 19 x31120.toNatClampNeg).toInt) (b := x31121.toInt) hk dX12_overOf_74 (by decide) rfl rfl (fun c31316 => ?_) (fun c31316 => ?_)
                  · skip
                    replace hF := FE.pos hF c31316
                    obtain ⟨y31317, ey31317⟩ : ∃ y : Int32, y = x31120 + Int32.ofInt 1 := ⟨_, rfl⟩
                    replace hF := FE.lt hF ey31317
                    have hy31317 : y31317.toInt = x31120.toInt + 1 := i32_add ey31317 rfl (by decide) (by omega) (by omega)
                    refine g_iinc (v := y31317) (lv' := [(5, .int y31317), (4, .int x31121), (3, .int x31122), (2, .int x30345), (1, .int x30346), (0, .ref (r 0))]) hk 0 dX12_overOf_86 rfl ey31317.symm (by decide) rfl ?_
                    refine g_goto (tgt := 24) hk dX12_overOf_89 (by decide) ?_
                    exact g_lv (List.forall_mem_cons.mpr ⟨List.mem_of_getElem? (i := 0) rfl, (List.forall_mem_cons.mpr ⟨List.mem_of_getElem? (i := 1) rfl, (List.forall_mem_cons.mpr ⟨List.mem_of_getElem? (i := 2) rfl, (List.forall_mem_cons.mpr ⟨List.mem_of_getElem? (i := 3) rfl, (List.forall_mem_cons.mpr ⟨List.mem_of_getElem? (i := 4) rfl, (List.forall_mem_cons.mpr ⟨List.mem_of_getElem? (i := 5) rfl, (fun _ h => absurd h List.not_mem_nil)⟩)⟩)⟩)⟩)⟩)⟩) (ih31276 y31317 x31121 x31122 (by omega) (by omega) (by omega) (by omega) (by omega) (by omega) hF)
                  · skip
                    replace hF := FE.neg hF c31316
                    refine g_aload_n hk dX12_overOf_77 rfl ?_
                    refine gM_r0_38 hk hin12 (List.mem_cons_of_mem _ (List.mem_append_left _ (List.mem_of_getElem? (i := 7) rfl))) dX12_overOf_78 ?_
                    refine g_iload hk dX12_overOf_81 rfl ?_
                    refine lM_19 (v := (A 19 x31120.toNatClampNeg)) hk (vp_in_iff.mpr ⟨by omega, by omega⟩) rfl dX12_overOf_83 ?_
                    refine g_istore (lv' := [(4, .int (A 19 x31120.toNatClampNeg)), (5, .int x31120), (3, .int x31122), (2, .int x30345), (1, .int x30346), (0, .ref (r 0))]) hk dX12_overOf_84 (by decide) rfl ?_
                    obtain ⟨y31318, ey31318⟩ : ∃ y : Int32, y = x31120 + Int32.ofInt 1 := ⟨_, rfl⟩
                    replace hF := FE.lt hF ey31318
                    have hy31318 : y31318.toInt = x31120.toInt + 1 := i32_add ey31318 rfl (by decide) (by omega) (by omega)
                    refine g_iinc (v := y31318) (lv' := [(5, .int y31318), (4, .int (A 19 x31120.toNatClampNeg)), (3, .int x31122), (2, .int x30345), (1, .int x30346), (0, .ref (r 0))]) hk 1 dX12_overOf_86 rfl ey31318.symm (by decide) rfl ?_
                    refine g_goto (tgt := 24) hk dX12_overOf_89 (by decide) ?_
                    exact g_lv (List.forall_mem_cons.mpr ⟨List.mem_of_getElem? (i := 0) rfl, (List.forall_mem_cons.mpr ⟨List.mem_of_getElem? (i := 1) rfl, (List.forall_mem_cons.mpr ⟨List.mem_of_getElem? (i := 2) rfl, (List.forall_mem_cons.mpr ⟨List.mem_of_getElem? (i := 3) rfl, (List.forall_mem_cons.mpr ⟨List.mem_of_getElem? (i := 4) rfl, (List.forall_mem_cons.mpr ⟨List.mem_of_getElem? (i := 5) rfl, (fun _ h => absurd h List.not_mem_nil)⟩)⟩)⟩)⟩)⟩)⟩) (ih31276 y31318 (A 19 x31120.toNatClampNeg) x31122 (by omega) (by omega) (by omega) (by omega) (by omega) (by omega) hF)
                · skip
                  replace hF := FE.neg hF c31314
                  refine g_aload_n hk dX12_overOf_57 rfl ?_
                  refine gM_r0_38 hk hin12 (List.mem_cons_of_mem _ (List.mem_append_left _ (List.mem_of_getElem? (i := 7) rfl))) dX12_overOf_58 ?_
                  refine g_iload hk dX12_overOf_61 rfl ?_
                  refine lM_19 (v := (A 19 x31120.toNatClampNeg)) hk (vp_in_iff.mpr ⟨by omega, by omega⟩) rfl dX12_overOf_63 ?_
                  refine g_istore_n (lv' := [(3, .int (A 19 x31120.toNatClampNeg)), (5, .int x31120), (4, .int x31121), (2, .int x30345), (1, .int x30346), (0, .ref (r 0))]) hk dX12_overOf_64 (by decide) rfl ?_
                  refine g_aload_n hk dX12_overOf_65 rfl ?_
                  refine gM_r0_38 hk hin12 (List.mem_cons_of_mem _ (List.mem_append_left _ (List.mem_of_getElem? (i := 7) rfl))) dX12_overOf_66 ?_
                  refine g_iload hk dX12_overOf_69 rfl ?_
                  refine lM_19 (v := (A 19 x31120.toNatClampNeg)) hk (vp_in_iff.mpr ⟨by omega, by omega⟩) rfl dX12_overOf_71 ?_
                  refine g_iload hk dX12_overOf_72 rfl ?_
                  have b31319l := Int32.le_toInt x31121
                  have b31319h := Int32.toInt_lt x31121
                  refine g_icmp_ge (tgt := 86) (a := (A 19 x31120.toNatClampNeg).toInt) (b := x31121.toInt) hk dX12_overOf_74 (by decide) rfl rfl (fun c31320 => ?_) (fun c31320 => ?_)
                  · skip
                    replace hF := FE.pos hF c31320
                    obtain ⟨y31321, ey31321⟩ : ∃ y : Int32, y = x31120 + Int32.ofInt 1 := ⟨_, rfl⟩
                    replace hF := FE.lt hF ey31321
                    have hy31321 : y31321.toInt = x31120.toInt + 1 := i32_add ey31321 rfl (by decide) (by omega) (by omega)
                    refine g_iinc (v := y31321) (lv' := [(5, .int y31321), (3, .int (A 19 x31120.toNatClampNeg)), (4, .int x31121), (2, .int x30345), (1, .int x30346), (0, .ref (r 0))]) hk 1 dX12_overOf_86 rfl ey31321.symm (by decide) rfl ?_
                    refine g_goto (tgt := 24) hk dX12_overOf_89 (by decide) ?_
                    exact g_lv (List.forall_mem_cons.mpr ⟨List.mem_of_getElem? (i := 0) rfl, (List.forall_mem_cons.mpr ⟨List.mem_of_getElem? (i := 2) rfl, (List.forall_mem_cons.mpr ⟨List.mem_of_getElem? (i := 1) rfl, (List.forall_mem_cons.mpr ⟨List.mem_of_getElem? (i := 3) rfl, (List.forall_mem_cons.mpr ⟨List.mem_of_getElem? (i := 4) rfl, (List.forall_mem_cons.mpr ⟨List.mem_of_getElem? (i := 5) rfl, (fun _ h => absurd h List.not_mem_nil)⟩)⟩)⟩)⟩)⟩)⟩) (ih31276 y31321 x31121 (A 19 x31120.toNatClampNeg) (by omega) (by omega) (by omega) (by omega) (by omega) (by omega) hF)
                  · skip
                    replace hF := FE.neg hF c31320
                    refine g_aload_n hk dX12_overOf_77 rfl ?_
                    refine gM_r0_38 hk hin12 (List.mem_cons_of_mem _ (List.mem_append_left _ (List.mem_of_getElem? (i := 7) rfl))) dX12_overOf_78 ?_
                    refine g_iload hk dX12_overOf_81 rfl ?_
                    refine lM_19 (v := (A 19 x31120.toNatClampNeg)) hk (vp_in_iff.mpr ⟨by omega, by omega⟩) rfl dX12_overOf_83 ?_
                    refine g_istore (lv' := [(4, .int (A 19 x31120.toNatClampNeg)), (3, .int (A 19 x31120.toNatClampNeg)), (5, .int x31120), (2, .int x30345), (1, .int x30346), (0, .ref (r 0))]) hk dX12_overOf_84 (by decide) rfl ?_
                    obtain ⟨y31322, ey31322⟩ : ∃ y : Int32, y = x31120 + Int32.ofInt 1 := ⟨_, rfl⟩
                    replace hF := FE.lt hF ey31322
                    have hy31322 : y31322.toInt = x31120.toInt + 1 := i32_add ey31322 rfl (by decide) (by omega) (by omega)
                    refine g_iinc (v := y31322) (lv' := [(5, .int y31322), (4, .int (A 19 x31120.toNatClampNeg)), (3, .int (A 19 x31120.toNatClampNeg)), (2, .int x30345), (1, .int x30346), (0, .ref (r 0))]) hk 2 dX12_overOf_86 rfl ey31322.symm (by decide) rfl ?_
                    refine g_goto (tgt := 24) hk dX12_overOf_89 (by decide) ?_
                    exact g_lv (List.forall_mem_cons.mpr ⟨List.mem_of_getElem? (i := 0) rfl, (List.forall_mem_cons.mpr ⟨List.mem_of_getElem? (i := 1) rfl, (List.forall_mem_cons.mpr ⟨List.mem_of_getElem? (i := 2) rfl, (List.forall_mem_cons.mpr ⟨List.mem_of_getElem? (i := 3) rfl, (List.forall_mem_cons.mpr ⟨List.mem_of_getElem? (i := 4) rfl, (List.forall_mem_cons.mpr ⟨List.mem_of_getElem? (i := 5) rfl, (fun _ h => absurd h List.not_mem_nil)⟩)⟩)⟩)⟩)⟩)⟩) (ih31276 y31322 (A 19 x31120.toNatClampNeg) (A 19 x31120.toNatClampNeg) (by omega) (by omega) (by omega) (by omega) (by omega) (by omega) hF)
        have k31323 : (0 : Int32).toInt = 0 := rfl
        have k31324 : (2000000000 : Int32).toInt = 2000000000 := rfl
        have k31325 : ((-2000000000) : Int32).toInt = (-2000000000) := rfl
        have b31327 := Int32.le_toInt (0 : Int32)
        have b31328 := Int32.toInt_lt (0 : Int32)
        have n31326a : 17 - (0 : Int32).toInt < (FU : Int) := by have := FU_eq; omega
        have n31326b : 0 < FU := by have := FU_eq; omega
        exact lp31272 FU 0 2000000000 (-2000000000) (by omega) (by omega) (by omega) (by omega) n31326a n31326b hF
  have k31329 : (0 : Int32).toInt = 0 := rfl
  have b31331 := Int32.le_toInt (0 : Int32)
  have b31332 := Int32.toInt_lt (0 : Int32)
  have n31330a : 17 - (0 : Int32).toInt < (FU : Int) := by have := FU_eq; omega
  have n31330b : 0 < FU := by have := FU_eq; omega
  exact lp31112 FU 0 0 (by omega) (by omega) n31330a n31330b hF
noncomputable def fM12_backOf (I : Nat → Int32) (A : Nat → Nat → Int32) (L : Nat → Nat → Int64) : Int32 × (Nat → Int32) × (Nat → Nat → Int32) × (Nat → Nat → Int64) := f_bdM (fM12_changesBoth I A L (I 18)) fun _ I30344 A30344 L30344 => f_lt (fM12_overOf I30344 A30344 L30344) fun y31333 => f_bdM (fM12_changesBoth I30344 A30344 L30344 (I 18)) fun _ I31335 A31335 L31335 => (y31333, I31335, A31335, L31335)
def wo_j180_X12_backOf : List Cond := [Cond.fieldLink RX12 267 "WarpDeskModel" "wide" "I", Cond.methodLink RX12 273 yX12_changesBoth, Cond.instanceMethod yX12_changesBoth, Cond.selects RX12 yX12_changesBoth yX12_changesBoth, Cond.initialized RX12, Cond.methodLink RX12 308 yX12_overOf, Cond.instanceMethod yX12_overOf, Cond.selects RX12 yX12_overOf yX12_overOf]
def wz_j180_X12_backOf : List Cond := .code yX12_backOf cX12_backOf 2 (some .int) :: (wo_j180_X12_backOf ++ (wsX120 ++ (wz_j171_X12_changesBoth ++ (wz_j181_X12_overOf ++ ([] : List Cond)))))
theorem zg_j180_X12_backOf : ∀ w ∈ wz_j180_X12_backOf, goodWord w = true := zg_cons rfl (zg_app (by decide +kernel) (zg_app zgU_wsX120 (zg_app zg_j171_X12_changesBoth (zg_app zg_j181_X12_overOf zg_nil))))
theorem zi_j180_X12_backOf : ∀ w ∈ wz_j180_X12_backOf, w ∈ lw_tbl := zi_cons zw_1815 (zi_app (zi_cons zw_1415 (zi_cons zw_1767 (zi_cons zw_1769 (zi_cons zw_81 (zi_cons zw_115 (zi_cons zw_1807 (zi_cons zw_1809 (zi_cons zw_89 zi_nil)))))))) (zi_app inX12 (zi_app zi_j171_X12_changesBoth (zi_app zi_j181_X12_overOf zi_nil))))
set_option maxHeartbeats 4000000 in
set_option maxRecDepth 100000 in
theorem j180_X12_backOf (l : Launch) (D : va_G) (zt : Nat × Nat × Nat × (Nat → Nat) × (Nat → Nat)) (r : Nat → Nat) (g : Nat → ClassId) (I : Nat → Int32) (A : Nat → Nat → Int32) (L : Nat → Nat → Int64) (hIv : IvM I A) : GM l D zt (tyM g) yX12_backOf wz_j180_X12_backOf ({ frames := 3, cells := 0, slots := 0, locals := 69 } : Room) [.ref (r 0)] (wM r g I A L) (fun v _ w' => ∃ (I' : Nat → Int32) (A' : Nat → Nat → Int32) (L' : Nat → Nat → Int64), Md [] I I' ∧ Md [19, 20] A A' ∧ IvM I' A' ∧ ∃ y0 : Int32, (L' = L) ∧ FE (fM12_backOf I A L) (y0, I', A', L') ∧ v = some (.int y0) ∧ w' = wM r g I' A' L') 0 0 := by
  refine GM.of (cc := cX12_backOf) (maxL := 2) (ret := (some .int)) (own := RX12) (lv := [(0, .ref (r 0))]) (by decide) rfl rfl (Nat.le_of_ble_eq_true rfl) rfl (fun κ sz hk hR hN => ?_)
  have hin12 : ∀ w ∈ u_ws RX12 TX12 55, w ∈ wz_j180_X12_backOf := fun w h => (List.mem_cons_of_mem _ (List.mem_append_right _ (List.mem_append_left _ h)))
  have hF : FE (fM12_backOf I A L) (fM12_backOf I A L) := FE.rf
  refine g_aload_n hk dX12_backOf_0 rfl ?_
  refine g_aload_n hk dX12_backOf_1 rfl ?_
  refine gM_i18 (v := (I 18)) hk hin12 (List.mem_cons_of_mem _ (List.mem_append_left _ (List.mem_of_getElem? (i := 0) rfl))) dX12_backOf_2 rfl ?_
  have f30342 := IvM_f18 hIv
  refine g_callV (n := 1) hk (j171_X12_changesBoth l D zt r g I A L (I 18) hIv (by omega) (by omega)) (SP.same _) (fun _ h => h) (gi_V (List.mem_cons_of_mem _ (List.mem_append_left _ (List.mem_of_getElem? (i := 1) rfl))) (List.mem_cons_of_mem _ (List.mem_append_left _ (List.mem_of_getElem? (i := 2) rfl))) (List.mem_cons_of_mem _ (List.mem_append_left _ (List.mem_of_getElem? (i := 3) rfl))) (List.mem_cons_of_mem _ (List.mem_append_left _ (List.mem_of_getElem? (i := 4) rfl))) (gi_sub (fun w h => (List.mem_cons_of_mem _ (List.mem_append_right _ (List.mem_append_right _ (List.mem_append_left _ h))))) zg_j171_X12_changesBoth)) rfl rfl rfl (by decide +kernel) ⟨Nat.le_of_ble_eq_true rfl, Nat.le_of_ble_eq_true rfl⟩ 0 rfl rfl rfl rfl (Nat.le_of_ble_eq_true rfl) ⟨Nat.le_of_ble_eq_true rfl, Nat.le_of_ble_eq_true rfl⟩ dX12_backOf_5 (fun v ty' w' hp hk' => ?_)
  obtain ⟨I30344, A30344, L30344, hI30344, hA30344, hV30344, hL30344, hC, rfl, rfl⟩ := hp
  replace hF := FE.bdM hF hC
  show GW κ 2 0 0 (wM r g I30344 A30344 L30344) 8 [(0, .ref (r 0))] []
  refine g_aload_n hk dX12_backOf_8 rfl ?_
  refine g_callV (n := 0) hk (j181_X12_overOf l D zt r g I30344 A30344 L30344  hV30344) (SP.same _) (fun _ h => h) (gi_V (List.mem_cons_of_mem _ (List.mem_append_left _ (List.mem_of_getElem? (i := 5) rfl))) (List.mem_cons_of_mem _ (List.mem_append_left _ (List.mem_of_getElem? (i := 6) rfl))) (List.mem_cons_of_mem _ (List.mem_append_left _ (List.mem_of_getElem? (i := 7) rfl))) (List.mem_cons_of_mem _ (List.mem_append_left _ (List.mem_of_getElem? (i := 4) rfl))) (gi_sub (fun w h => (List.mem_cons_of_mem _ (List.mem_append_right _ (List.mem_append_right _ (List.mem_append_right _ (List.mem_append_left _ h)))))) zg_j181_X12_overOf)) rfl rfl rfl (by decide +kernel) ⟨Nat.le_of_ble_eq_true rfl, Nat.le_of_ble_eq_true rfl⟩ 0 rfl rfl rfl rfl (Nat.le_of_ble_eq_true rfl) ⟨Nat.le_of_ble_eq_true rfl, Nat.le_of_ble_eq_true rfl⟩ dX12_backOf_9 (fun v ty' w' hp hk' => ?_)
  obtain ⟨y31333, hC, rfl, rfl⟩ := hp
  replace hF := FE.lt hF (fe_s hC)
  show GW κ 2 0 0 (wM r g I30344 A30344 L30344) 12 [(0, .ref (r 0))] [.int y31333]
  refine g_istore_n (lv' := [(1, .int y31333), (0, .ref (r 0))]) hk dX12_backOf_12 (by decide) rfl ?_
  refine g_aload_n hk dX12_backOf_13 rfl ?_
  refine g_aload_n hk dX12_backOf_14 rfl ?_
  refine gM_i18 (v := (I 18)) hk hin12 (List.mem_cons_of_mem _ (List.mem_append_left _ (List.mem_of_getElem? (i := 0) rfl))) dX12_backOf_15 (hI30344 18 rfl) ?_
  refine g_callV (n := 1) hk (j171_X12_changesBoth l D zt r g I30344 A30344 L30344 (I 18) hV30344 (by omega) (by omega)) (SP.same _) (fun _ h => h) (gi_V (List.mem_cons_of_mem _ (List.mem_append_left _ (List.mem_of_getElem? (i := 1) rfl))) (List.mem_cons_of_mem _ (List.mem_append_left _ (List.mem_of_getElem? (i := 2) rfl))) (List.mem_cons_of_mem _ (List.mem_append_left _ (List.mem_of_getElem? (i := 3) rfl))) (List.mem_cons_of_mem _ (List.mem_append_left _ (List.mem_of_getElem? (i := 4) rfl))) (gi_sub (fun w h => (List.mem_cons_of_mem _ (List.mem_append_right _ (List.mem_append_right _ (List.mem_append_left _ h))))) zg_j171_X12_changesBoth)) rfl rfl rfl (by decide +kernel) ⟨Nat.le_of_ble_eq_true rfl, Nat.le_of_ble_eq_true rfl⟩ 0 rfl rfl rfl rfl (Nat.le_of_ble_eq_true rfl) ⟨Nat.le_of_ble_eq_true rfl, Nat.le_of_ble_eq_true rfl⟩ dX12_backOf_18 (fun v ty' w' hp hk' => ?_)
  obtain ⟨I31335, A31335, L31335, hI31335, hA31335, hV31335, hL31335, hC, rfl, rfl⟩ := hp
  replace hF := FE.bdM hF hC
  show GW κ 2 0 0 (wM r g I31335 A31335 L31335) 21 [(1, .int y31333), (0, .ref (r 0))] []
  refine g_iload_n hk dX12_backOf_21 rfl ?_
  have b31336l := Int32.le_toInt y31333
  have b31336h := Int32.toInt_lt y31333
  exact g_iret hk hR rfl ⟨I31335, A31335, L31335, (show Md [] I I31335 from (Md.tr (Md.tr Md.rf hI30344 rfl) hI31335 rfl)), (show Md [19, 20] A A31335 from (Md.tr (Md.tr Md.rf hA30344 rfl) hA31335 rfl)), hV31335, y31333, (show L31335 = L from (hL31335.trans hL30344)), hF, rfl, rfl⟩ dX12_backOf_22
noncomputable def fM12_endsOf (I : Nat → Int32) (A : Nat → Nat → Int32) (L : Nat → Nat → Int64) : Int32 := f_lt (fM12_costOf I A L (A 19 0) (A 20 0)) fun y31342 => f_lt ((I 18) - (1 : Int32)) fun y31344 => f_lt ((I 18) - (1 : Int32)) fun y31345 => f_lt (fM12_costOf I A L (A 19 y31344.toNatClampNeg) (A 20 y31345.toNatClampNeg)) fun y31346 => f_lt (y31342 + y31346) fun y31349 => y31349
def wo_j182_X12_endsOf : List Cond := [Cond.fieldLink RX12 76 "WarpDeskModel" "firstAt" "[I", Cond.fieldLink RX12 79 "WarpDeskModel" "otherAt" "[I", Cond.methodLink RX12 289 yX12_costOf, Cond.instanceMethod yX12_costOf, Cond.selects RX12 yX12_costOf yX12_costOf, Cond.initialized RX12, Cond.fieldLink RX12 267 "WarpDeskModel" "wide" "I"]
def wz_j182_X12_endsOf : List Cond := .code yX12_endsOf cX12_endsOf 1 (some .int) :: (wo_j182_X12_endsOf ++ (wsX120 ++ (wz_j178_X12_costOf ++ ([] : List Cond))))
theorem zg_j182_X12_endsOf : ∀ w ∈ wz_j182_X12_endsOf, goodWord w = true := zg_cons rfl (zg_app (by decide +kernel) (zg_app zgU_wsX120 (zg_app zg_j178_X12_costOf zg_nil)))
theorem zi_j182_X12_endsOf : ∀ w ∈ wz_j182_X12_endsOf, w ∈ lw_tbl := zi_cons zw_1806 (zi_app (zi_cons zw_1416 (zi_cons zw_1417 (zi_cons zw_1795 (zi_cons zw_1797 (zi_cons zw_87 (zi_cons zw_115 (zi_cons zw_1415 zi_nil))))))) (zi_app inX12 (zi_app zi_j178_X12_costOf zi_nil)))
set_option maxHeartbeats 4000000 in
set_option maxRecDepth 100000 in
theorem j182_X12_endsOf (l : Launch) (D : va_G) (zt : Nat × Nat × Nat × (Nat → Nat) × (Nat → Nat)) (r : Nat → Nat) (g : Nat → ClassId) (I : Nat → Int32) (A : Nat → Nat → Int32) (L : Nat → Nat → Int64) (hIv : IvM I A) (hp0 : 1 ≤ (I 18).toInt) : GM l D zt (tyM g) yX12_endsOf wz_j182_X12_endsOf ({ frames := 1, cells := 0, slots := 0, locals := 23 } : Room) [.ref (r 0)] (wM r g I A L) (fun v _ w' => ∃ y0 : Int32, FE (fM12_endsOf I A L) y0 ∧ v = some (.int y0) ∧ w' = wM r g I A L) 0 0 := by
  refine GM.of (cc := cX12_endsOf) (maxL := 1) (ret := (some .int)) (own := RX12) (lv := [(0, .ref (r 0))]) (by decide) rfl rfl (Nat.le_of_ble_eq_true rfl) rfl (fun κ sz hk hR hN => ?_)
  have hin12 : ∀ w ∈ u_ws RX12 TX12 55, w ∈ wz_j182_X12_endsOf := fun w h => (List.mem_cons_of_mem _ (List.mem_append_right _ (List.mem_append_left _ h)))
  have hF : FE (fM12_endsOf I A L) (fM12_endsOf I A L) := FE.rf
  refine g_aload_n hk dX12_endsOf_0 rfl ?_
  refine g_aload_n hk dX12_endsOf_1 rfl ?_
  refine gM_r0_38 hk hin12 (List.mem_cons_of_mem _ (List.mem_append_left _ (List.mem_of_getElem? (i := 0) rfl))) dX12_endsOf_2 ?_
  refine g_iconst (v := 0) hk dX12_endsOf_5 (by decide) ?_
  refine lM_19 (v := (A 19 0)) hk (vp_in_iff.mpr ⟨by decide, by decide⟩) rfl dX12_endsOf_6 ?_
  refine g_aload_n hk dX12_endsOf_7 rfl ?_
  refine gM_r0_39 hk hin12 (List.mem_cons_of_mem _ (List.mem_append_left _ (List.mem_of_getElem? (i := 1) rfl))) dX12_endsOf_8 ?_
  refine g_iconst (v := 0) hk dX12_endsOf_11 (by decide) ?_
  refine lM_20 (v := (A 20 0)) hk (vp_in_iff.mpr ⟨by decide, by decide⟩) rfl dX12_endsOf_12 ?_
  refine g_callV (n := 2) hk (j178_X12_costOf l D zt r g I A L (A 19 0) (A 20 0) hIv) (SP.same _) (fun _ h => h) (gi_V (List.mem_cons_of_mem _ (List.mem_append_left _ (List.mem_of_getElem? (i := 2) rfl))) (List.mem_cons_of_mem _ (List.mem_append_left _ (List.mem_of_getElem? (i := 3) rfl))) (List.mem_cons_of_mem _ (List.mem_append_left _ (List.mem_of_getElem? (i := 4) rfl))) (List.mem_cons_of_mem _ (List.mem_append_left _ (List.mem_of_getElem? (i := 5) rfl))) (gi_sub (fun w h => (List.mem_cons_of_mem _ (List.mem_append_right _ (List.mem_append_right _ (List.mem_append_left _ h))))) zg_j178_X12_costOf)) rfl rfl rfl (by decide +kernel) ⟨Nat.le_of_ble_eq_true rfl, Nat.le_of_ble_eq_true rfl⟩ 0 rfl rfl rfl rfl (Nat.le_of_ble_eq_true rfl) ⟨Nat.le_of_ble_eq_true rfl, Nat.le_of_ble_eq_true rfl⟩ dX12_endsOf_13 (fun v ty' w' hp hk' => ?_)
  obtain ⟨y31342, hC, rfl, rfl⟩ := hp
  replace hF := FE.lt hF (fe_s hC)
  show GW κ 1 0 0 (wM r g I A L) 16 [(0, .ref (r 0))] [.int y31342]
  refine g_aload_n hk dX12_endsOf_16 rfl ?_
  refine g_aload_n hk dX12_endsOf_17 rfl ?_
  refine gM_r0_38 hk hin12 (List.mem_cons_of_mem _ (List.mem_append_left _ (List.mem_of_getElem? (i := 0) rfl))) dX12_endsOf_18 ?_
  refine g_aload_n hk dX12_endsOf_21 rfl ?_
  refine gM_i18 (v := (I 18)) hk hin12 (List.mem_cons_of_mem _ (List.mem_append_left _ (List.mem_of_getElem? (i := 6) rfl))) dX12_endsOf_22 rfl ?_
  have f31343 := IvM_f18 hIv
  refine g_iconst (v := 1) hk dX12_endsOf_25 (by decide) ?_
  refine g_isub hk dX12_endsOf_26 ?_
  refine g_topi (fun y31344 ey31344 => ?_)
  replace hF := FE.lt hF ey31344
  have hy31344 : y31344.toInt = (I 18).toInt - 1 := i32_sub ey31344 rfl rfl (by omega) (by omega)
  refine lM_19 (v := (A 19 y31344.toNatClampNeg)) hk (vp_in_iff.mpr ⟨by omega, by omega⟩) rfl dX12_endsOf_27 ?_
  refine g_aload_n hk dX12_endsOf_28 rfl ?_
  refine gM_r0_39 hk hin12 (List.mem_cons_of_mem _ (List.mem_append_left _ (List.mem_of_getElem? (i := 1) rfl))) dX12_endsOf_29 ?_
  refine g_aload_n hk dX12_endsOf_32 rfl ?_
  refine gM_i18 (v := (I 18)) hk hin12 (List.mem_cons_of_mem _ (List.mem_append_left _ (List.mem_of_getElem? (i := 6) rfl))) dX12_endsOf_33 rfl ?_
  refine g_iconst (v := 1) hk dX12_endsOf_36 (by decide) ?_
  refine g_isub hk dX12_endsOf_37 ?_
  refine g_topi (fun y31345 ey31345 => ?_)
  replace hF := FE.lt hF ey31345
  have hy31345 : y31345.toInt = (I 18).toInt - 1 := i32_sub ey31345 rfl rfl (by omega) (by omega)
  refine lM_20 (v := (A 20 y31345.toNatClampNeg)) hk (vp_in_iff.mpr ⟨by omega, by omega⟩) rfl dX12_endsOf_38 ?_
  refine g_callV (n := 2) hk (j178_X12_costOf l D zt r g I A L (A 19 y31344.toNatClampNeg) (A 20 y31345.toNatClampNeg) hIv) (SP.same _) (fun _ h => h) (gi_V (List.mem_cons_of_mem _ (List.mem_append_left _ (List.mem_of_getElem? (i := 2) rfl))) (List.mem_cons_of_mem _ (List.mem_append_left _ (List.mem_of_getElem? (i := 3) rfl))) (List.mem_cons_of_mem _ (List.mem_append_left _ (List.mem_of_getElem? (i := 4) rfl))) (List.mem_cons_of_mem _ (List.mem_append_left _ (List.mem_of_getElem? (i := 5) rfl))) (gi_sub (fun w h => (List.mem_cons_of_mem _ (List.mem_append_right _ (List.mem_append_right _ (List.mem_append_left _ h))))) zg_j178_X12_costOf)) rfl rfl rfl (by decide +kernel) ⟨Nat.le_of_ble_eq_true rfl, Nat.le_of_ble_eq_true rfl⟩ 0 rfl rfl rfl rfl (Nat.le_of_ble_eq_true rfl) ⟨Nat.le_of_ble_eq_true rfl, Nat.le_of_ble_eq_true rfl⟩ dX12_endsOf_39 (fun v ty' w' hp hk' => ?_)
  obtain ⟨y31346, hC, rfl, rfl⟩ := hp
  replace hF := FE.lt hF (fe_s hC)
  show GW κ 1 0 0 (wM r g I A L) 42 [(0, .ref (r 0))] [.int y31346, .int y31342]
  have b31347l := Int32.le_toInt y31342
  have b31347h := Int32.toInt_lt y31342
  have b31348l := Int32.le_toInt y31346
  have b31348h := Int32.toInt_lt y31346
  refine g_iadd hk dX12_endsOf_42 ?_
  refine g_topi (fun y31349 ey31349 => ?_)
  replace hF := FE.lt hF ey31349
  have b31350l := Int32.le_toInt y31349
  have b31350h := Int32.toInt_lt y31349
  exact g_iret hk hR rfl ⟨y31349, hF, rfl, rfl⟩ dX12_endsOf_43
noncomputable def fM12_bound (I : Nat → Int32) (A : Nat → Nat → Int32) (L : Nat → Nat → Int64) (z1 : Int32) (z2 : Int32) (z3 : Int32) : Int32 × (Nat → Int32) × (Nat → Nat → Int32) × (Nat → Nat → Int64) := if fM12_isOf I A L z1 z2 = 0 then ((-1), I, A, L) else if fM12_in I A L z3 0 2 = 0 then ((-1), I, A, L) else f_bdM (fM12_copies I A L) fun _ I30331 A30331 L30331 => f_bdM (fM12_laysBoth I30331 A30331 L30331 z1 z2) fun _ I30337 A30337 L30337 => if z3.toInt ≠ 0 then if z3.toInt ≠ 1 then f_bdM (fM12_backOf I30337 A30337 L30337) fun y31337 I31338 A31338 L31338 => (y31337, I31338, A31338, L31338) else f_lt (fM12_overOf I30337 A30337 L30337) fun y31340 => (y31340, I30337, A30337, L30337) else f_lt (fM12_endsOf I30337 A30337 L30337) fun y31351 => (y31351, I30337, A30337, L30337)
def wo_j179_X12_bound : List Cond := [Cond.methodLink RX12 342 yX12_isOf, Cond.instanceMethod yX12_isOf, Cond.selects RX12 yX12_isOf yX12_isOf, Cond.initialized RX12, Cond.methodLink RX12 244 yX12_in, Cond.static yX12_in, Cond.methodLink RX12 323 yX12_copies, Cond.instanceMethod yX12_copies, Cond.selects RX12 yX12_copies yX12_copies, Cond.methodLink RX12 301 yX12_laysBoth, Cond.instanceMethod yX12_laysBoth, Cond.selects RX12 yX12_laysBoth yX12_laysBoth, Cond.methodLink RX12 317 yX12_backOf, Cond.instanceMethod yX12_backOf, Cond.selects RX12 yX12_backOf yX12_backOf, Cond.methodLink RX12 308 yX12_overOf, Cond.instanceMethod yX12_overOf, Cond.selects RX12 yX12_overOf yX12_overOf, Cond.methodLink RX12 314 yX12_endsOf, Cond.instanceMethod yX12_endsOf, Cond.selects RX12 yX12_endsOf yX12_endsOf]
def wz_j179_X12_bound : List Cond := .code yX12_bound cX12_bound 4 (some .int) :: (wo_j179_X12_bound ++ (wz_j168_X12_isOf ++ (wz_j145_X12_in ++ (wz_j151_X12_copies ++ (wz_j170_X12_laysBoth ++ (wz_j180_X12_backOf ++ (wz_j181_X12_overOf ++ (wz_j182_X12_endsOf ++ ([] : List Cond)))))))))
theorem zg_j179_X12_bound : ∀ w ∈ wz_j179_X12_bound, goodWord w = true := zg_cons rfl (zg_app (by decide +kernel) (zg_app zg_j168_X12_isOf (zg_app zg_j145_X12_in (zg_app zg_j151_X12_copies (zg_app zg_j170_X12_laysBoth (zg_app zg_j180_X12_backOf (zg_app zg_j181_X12_overOf (zg_app zg_j182_X12_endsOf zg_nil))))))))
theorem zi_j179_X12_bound : ∀ w ∈ wz_j179_X12_bound, w ∈ lw_tbl := zi_cons zw_1802 (zi_app (zi_cons zw_1755 (zi_cons zw_1757 (zi_cons zw_78 (zi_cons zw_115 (zi_cons zw_1656 (zi_cons zw_1657 (zi_cons zw_1679 (zi_cons zw_1681 (zi_cons zw_70 (zi_cons zw_1763 (zi_cons zw_1765 (zi_cons zw_80 (zi_cons zw_1812 (zi_cons zw_1814 (zi_cons zw_90 (zi_cons zw_1807 (zi_cons zw_1809 (zi_cons zw_89 (zi_cons zw_1803 (zi_cons zw_1805 (zi_cons zw_88 zi_nil))))))))))))))))))))) (zi_app zi_j168_X12_isOf (zi_app zi_j145_X12_in (zi_app zi_j151_X12_copies (zi_app zi_j170_X12_laysBoth (zi_app zi_j180_X12_backOf (zi_app zi_j181_X12_overOf (zi_app zi_j182_X12_endsOf zi_nil))))))))
set_option maxHeartbeats 4000000 in
set_option maxRecDepth 100000 in
theorem j179_X12_bound (l : Launch) (D : va_G) (zt : Nat × Nat × Nat × (Nat → Nat) × (Nat → Nat)) (r : Nat → Nat) (g : Nat → ClassId) (I : Nat → Int32) (A : Nat → Nat → Int32) (L : Nat → Nat → Int64) (z1 : Int32) (z2 : Int32) (z3 : Int32) (hIv : IvM I A) : GM l D zt (tyM g) yX12_bound wz_j179_X12_bound ({ frames := 4, cells := 0, slots := 0, locals := 94 } : Room) [.ref (r 0), .int z1, .int z2, .int z3] (wM r g I A L) (fun v _ w' => ∃ (I' : Nat → Int32) (A' : Nat → Nat → Int32) (L' : Nat → Nat → Int64), Md [18] I I' ∧ Md [18, 19, 20] A A' ∧ IvM I' A' ∧ ∃ y0 : Int32, (L' = L) ∧ FE (fM12_bound I A L z1 z2 z3) (y0, I', A', L') ∧ v = some (.int y0) ∧ w' = wM r g I' A' L') 0 0 := by
  refine GM.of (cc := cX12_bound) (maxL := 4) (ret := (some .int)) (own := RX12) (lv := [(0, .ref (r 0)), (1, .int z1), (2, .int z2), (3, .int z3)]) (by decide) rfl rfl (Nat.le_of_ble_eq_true rfl) rfl (fun κ sz hk hR hN => ?_)
  have hF : FE (fM12_bound I A L z1 z2 z3) (fM12_bound I A L z1 z2 z3) := FE.rf
  refine g_aload_n hk dX12_bound_0 rfl ?_
  refine g_iload_n hk dX12_bound_1 rfl ?_
  refine g_iload_n hk dX12_bound_2 rfl ?_
  refine g_callV (n := 2) hk (j168_X12_isOf l D zt r g I A L z1 z2 hIv) (SP.same _) (fun _ h => h) (gi_V (List.mem_cons_of_mem _ (List.mem_append_left _ (List.mem_of_getElem? (i := 0) rfl))) (List.mem_cons_of_mem _ (List.mem_append_left _ (List.mem_of_getElem? (i := 1) rfl))) (List.mem_cons_of_mem _ (List.mem_append_left _ (List.mem_of_getElem? (i := 2) rfl))) (List.mem_cons_of_mem _ (List.mem_append_left _ (List.mem_of_getElem? (i := 3) rfl))) (gi_sub (fun w h => (List.mem_cons_of_mem _ (List.mem_append_right _ (List.mem_append_left _ h)))) zg_j168_X12_isOf)) rfl rfl rfl (by decide +kernel) ⟨Nat.le_of_ble_eq_true rfl, Nat.le_of_ble_eq_true rfl⟩ 0 rfl rfl rfl rfl (Nat.le_of_ble_eq_true rfl) ⟨Nat.le_of_ble_eq_true rfl, Nat.le_of_ble_eq_true rfl⟩ dX12_bound_3 (fun v ty' w' hp hk' => ?_)
  rcases hp with ⟨hC, rfl, rfl⟩ | ⟨c30308, c30309, c30310, c30311, c30312, c30313, c30314, c30315, c30316, c30317, c30318, c30319, hC, rfl, rfl⟩
  · skip
    replace hF := FE.pos hF hC
    show GW κ 4 0 0 (wM r g I A L) 6 [(0, .ref (r 0)), (1, .int z1), (2, .int z2), (3, .int z3)] [.int 0]
    refine g_if_eq (tgt := 18) (a := 0) hk dX12_bound_6 (by decide) rfl (fun _ => ?_) (fun z9 => absurd (show (0 : Int) = (0 : Int) from by decide) z9)
    refine g_iconst (v := (-1)) hk dX12_bound_18 (by decide) ?_
    exact g_iret hk hR rfl ⟨I, A, L, (show Md [18] I I from Md.rf), (show Md [18, 19, 20] A A from Md.rf), hIv, (-1), (show L = L from rfl), hF, rfl, rfl⟩ dX12_bound_19
  · skip
    replace hF := FE.neg hF (fe_ne hC (by decide))
    have f30321 : 0 ≤ (A 11 (5 * (I 15) + z1).toNatClampNeg).toInt ∧ (A 11 (5 * (I 15) + z1).toNatClampNeg).toInt ≤ 16 := IvM_a11 hIv _
    show GW κ 4 0 0 (wM r g I A L) 6 [(0, .ref (r 0)), (1, .int z1), (2, .int z2), (3, .int z3)] [.int 1]
    refine g_if_eq (tgt := 18) (a := 1) hk dX12_bound_6 (by decide) rfl (fun z9 => absurd z9 (show ¬ ((1 : Int) = (0 : Int)) from by decide)) (fun _ => ?_)
    refine g_iload_n hk dX12_bound_9 rfl ?_
    refine g_iconst (v := 0) hk dX12_bound_10 (by decide) ?_
    refine g_iconst (v := 2) hk dX12_bound_11 (by decide) ?_
    have k30322 : (0 : Int32).toInt = 0 := rfl
    have k30323 : (2 : Int32).toInt = 2 := rfl
    refine g_callS (n := 3) hk (j145_X12_in l D zt r g I A L z3 0 2 hIv) (SP.same _) (fun _ h => h) (gi_S (List.mem_cons_of_mem _ (List.mem_append_left _ (List.mem_of_getElem? (i := 4) rfl))) (List.mem_cons_of_mem _ (List.mem_append_left _ (List.mem_of_getElem? (i := 5) rfl))) (List.mem_cons_of_mem _ (List.mem_append_left _ (List.mem_of_getElem? (i := 3) rfl))) (gi_sub (fun w h => (List.mem_cons_of_mem _ (List.mem_append_right _ (List.mem_append_right _ (List.mem_append_left _ h))))) zg_j145_X12_in)) rfl rfl rfl (by decide +kernel) ⟨Nat.le_of_ble_eq_true rfl, Nat.le_of_ble_eq_true rfl⟩ rfl rfl (Nat.le_of_ble_eq_true rfl) ⟨Nat.le_of_ble_eq_true rfl, Nat.le_of_ble_eq_true rfl⟩ dX12_bound_12 (fun v ty' w' hp hk' => ?_)
    rcases hp with ⟨c30324, hC, rfl, rfl⟩ | ⟨c30326, c30327, hC, rfl, rfl⟩
    · skip
      replace hF := FE.pos hF hC
      have b30329l := Int32.le_toInt z3
      have b30329h := Int32.toInt_lt z3
      show GW κ 4 0 0 (wM r g I A L) 15 [(0, .ref (r 0)), (1, .int z1), (2, .int z2), (3, .int z3)] [.int 0]
      refine g_if_ne (tgt := 20) (a := 0) hk dX12_bound_15 (by decide) rfl (fun z9 => absurd z9 (show ¬ ((0 : Int) ≠ (0 : Int)) from by decide)) (fun _ => ?_)
      refine g_iconst (v := (-1)) hk dX12_bound_18 (by decide) ?_
      exact g_iret hk hR rfl ⟨I, A, L, (show Md [18] I I from Md.rf), (show Md [18, 19, 20] A A from Md.rf), hIv, (-1), (show L = L from rfl), hF, rfl, rfl⟩ dX12_bound_19
    · skip
      replace hF := FE.neg hF (fe_ne hC (by decide))
      show GW κ 4 0 0 (wM r g I A L) 15 [(0, .ref (r 0)), (1, .int z1), (2, .int z2), (3, .int z3)] [.int 1]
      refine g_if_ne (tgt := 20) (a := 1) hk dX12_bound_15 (by decide) rfl (fun _ => ?_) (fun z9 => absurd (show (1 : Int) ≠ (0 : Int) from by decide) z9)
      refine g_aload_n hk dX12_bound_20 rfl ?_
      refine g_callV (n := 0) hk (j151_X12_copies l D zt r g I A L  hIv) (SP.same _) (fun _ h => h) (gi_V (List.mem_cons_of_mem _ (List.mem_append_left _ (List.mem_of_getElem? (i := 6) rfl))) (List.mem_cons_of_mem _ (List.mem_append_left _ (List.mem_of_getElem? (i := 7) rfl))) (List.mem_cons_of_mem _ (List.mem_append_left _ (List.mem_of_getElem? (i := 8) rfl))) (List.mem_cons_of_mem _ (List.mem_append_left _ (List.mem_of_getElem? (i := 3) rfl))) (gi_sub (fun w h => (List.mem_cons_of_mem _ (List.mem_append_right _ (List.mem_append_right _ (List.mem_append_right _ (List.mem_append_left _ h)))))) zg_j151_X12_copies)) rfl rfl rfl (by decide +kernel) ⟨Nat.le_of_ble_eq_true rfl, Nat.le_of_ble_eq_true rfl⟩ 0 rfl rfl rfl rfl (Nat.le_of_ble_eq_true rfl) ⟨Nat.le_of_ble_eq_true rfl, Nat.le_of_ble_eq_true rfl⟩ dX12_bound_21 (fun v ty' w' hp hk' => ?_)
      obtain ⟨I30331, A30331, L30331, hI30331, hA30331, hV30331, r30332, r30333, hL30331, hC, rfl, rfl⟩ := hp
      replace hF := FE.bdM hF hC
      have f30334 := IvM_s17_0 hIv
      have f30335 := IvM_s17_164 hIv
      show GW κ 4 0 0 (wM r g I30331 A30331 L30331) 24 [(0, .ref (r 0)), (1, .int z1), (2, .int z2), (3, .int z3)] []
      refine g_aload_n hk dX12_bound_24 rfl ?_
      refine g_iload_n hk dX12_bound_25 rfl ?_
      refine g_iload_n hk dX12_bound_26 rfl ?_
      refine g_callV (n := 2) hk (j170_X12_laysBoth l D zt r g I30331 A30331 L30331 z1 z2 hV30331 (by omega) (by omega) (by omega) (by omega) (by first | (rw [show (A30331 11 (5 * (I30331 15) + z1).toNatClampNeg) = (A 11 (5 * (I 15) + z1).toNatClampNeg) from (by rw [show I30331 15 = (I 15) from (hI30331 15 rfl)]; exact (congrFun (hA30331 11 rfl) _))] <;> omega) | omega) (by first | (rw [show (A30331 11 (5 * (I30331 15) + z1).toNatClampNeg) = (A 11 (5 * (I 15) + z1).toNatClampNeg) from (by rw [show I30331 15 = (I 15) from (hI30331 15 rfl)]; exact (congrFun (hA30331 11 rfl) _))] <;> omega) | omega)) (SP.same _) (fun _ h => h) (gi_V (List.mem_cons_of_mem _ (List.mem_append_left _ (List.mem_of_getElem? (i := 9) rfl))) (List.mem_cons_of_mem _ (List.mem_append_left _ (List.mem_of_getElem? (i := 10) rfl))) (List.mem_cons_of_mem _ (List.mem_append_left _ (List.mem_of_getElem? (i := 11) rfl))) (List.mem_cons_of_mem _ (List.mem_append_left _ (List.mem_of_getElem? (i := 3) rfl))) (gi_sub (fun w h => (List.mem_cons_of_mem _ (List.mem_append_right _ (List.mem_append_right _ (List.mem_append_right _ (List.mem_append_right _ (List.mem_append_left _ h))))))) zg_j170_X12_laysBoth)) rfl rfl rfl (by decide +kernel) ⟨Nat.le_of_ble_eq_true rfl, Nat.le_of_ble_eq_true rfl⟩ 0 rfl rfl rfl rfl (Nat.le_of_ble_eq_true rfl) ⟨Nat.le_of_ble_eq_true rfl, Nat.le_of_ble_eq_true rfl⟩ dX12_bound_27 (fun v ty' w' hp hk' => ?_)
      obtain ⟨I30337, A30337, L30337, hI30337, hA30337, hV30337, r30338, hL30337, hC, rfl, rfl⟩ := hp
      replace hF := FE.bdM hF hC
      have f30339 := IvM_f18 hV30337
      show GW κ 4 0 0 (wM r g I30337 A30337 L30337) 30 [(0, .ref (r 0)), (1, .int z1), (2, .int z2), (3, .int z3)] []
      refine g_iload_n hk dX12_bound_30 rfl ?_
      refine g_if_ne (tgt := 41) (a := z3.toInt) hk dX12_bound_31 (by decide) rfl (fun c30340 => ?_) (fun c30340 => ?_)
      · skip
        replace hF := FE.pos hF c30340
        refine g_iload_n hk dX12_bound_41 rfl ?_
        refine g_iconst (v := 1) hk dX12_bound_42 (by decide) ?_
        refine g_icmp_ne (tgt := 53) (a := z3.toInt) (b := 1) hk dX12_bound_43 (by decide) rfl rfl (fun c30341 => ?_) (fun c30341 => ?_)
        · skip
          replace hF := FE.pos hF c30341
          refine g_aload_n hk dX12_bound_53 rfl ?_
          refine g_callV (n := 0) hk (j180_X12_backOf l D zt r g I30337 A30337 L30337  hV30337) (SP.same _) (fun _ h => h) (gi_V (List.mem_cons_of_mem _ (List.mem_append_left _ (List.mem_of_getElem? (i := 12) rfl))) (List.mem_cons_of_mem _ (List.mem_append_left _ (List.mem_of_getElem? (i := 13) rfl))) (List.mem_cons_of_mem _ (List.mem_append_left _ (List.mem_of_getElem? (i := 14) rfl))) (List.mem_cons_of_mem _ (List.mem_append_left _ (List.mem_of_getElem? (i := 3) rfl))) (gi_sub (fun w h => (List.mem_cons_of_mem _ (List.mem_append_right _ (List.mem_append_right _ (List.mem_append_right _ (List.mem_append_right _ (List.mem_append_right _ (List.mem_append_left _ h)))))))) zg_j180_X12_backOf)) rfl rfl rfl (by decide +kernel) ⟨Nat.le_of_ble_eq_true rfl, Nat.le_of_ble_eq_true rfl⟩ 0 rfl rfl rfl rfl (Nat.le_of_ble_eq_true rfl) ⟨Nat.le_of_ble_eq_true rfl, Nat.le_of_ble_eq_true rfl⟩ dX12_bound_54 (fun v ty' w' hp hk' => ?_)
          obtain ⟨I31338, A31338, L31338, hI31338, hA31338, hV31338, y31337, hL31338, hC, rfl, rfl⟩ := hp
          replace hF := FE.bdM hF hC
          show GW κ 4 0 0 (wM r g I31338 A31338 L31338) 57 [(0, .ref (r 0)), (1, .int z1), (2, .int z2), (3, .int z3)] [.int y31337]
          have b31339l := Int32.le_toInt y31337
          have b31339h := Int32.toInt_lt y31337
          exact g_iret hk hR rfl ⟨I31338, A31338, L31338, (show Md [18] I I31338 from (Md.tr (Md.tr (Md.tr Md.rf hI30331 rfl) hI30337 rfl) hI31338 rfl)), (show Md [18, 19, 20] A A31338 from (Md.tr (Md.tr (Md.tr Md.rf hA30331 rfl) hA30337 rfl) hA31338 rfl)), hV31338, y31337, (show L31338 = L from (hL31338.trans (hL30337.trans hL30331))), hF, rfl, rfl⟩ dX12_bound_57
        · skip
          replace hF := FE.neg hF c30341
          refine g_aload_n hk dX12_bound_46 rfl ?_
          refine g_callV (n := 0) hk (j181_X12_overOf l D zt r g I30337 A30337 L30337  hV30337) (SP.same _) (fun _ h => h) (gi_V (List.mem_cons_of_mem _ (List.mem_append_left _ (List.mem_of_getElem? (i := 15) rfl))) (List.mem_cons_of_mem _ (List.mem_append_left _ (List.mem_of_getElem? (i := 16) rfl))) (List.mem_cons_of_mem _ (List.mem_append_left _ (List.mem_of_getElem? (i := 17) rfl))) (List.mem_cons_of_mem _ (List.mem_append_left _ (List.mem_of_getElem? (i := 3) rfl))) (gi_sub (fun w h => (List.mem_cons_of_mem _ (List.mem_append_right _ (List.mem_append_right _ (List.mem_append_right _ (List.mem_append_right _ (List.mem_append_right _ (List.mem_append_right _ (List.mem_append_left _ h))))))))) zg_j181_X12_overOf)) rfl rfl rfl (by decide +kernel) ⟨Nat.le_of_ble_eq_true rfl, Nat.le_of_ble_eq_true rfl⟩ 0 rfl rfl rfl rfl (Nat.le_of_ble_eq_true rfl) ⟨Nat.le_of_ble_eq_true rfl, Nat.le_of_ble_eq_true rfl⟩ dX12_bound_47 (fun v ty' w' hp hk' => ?_)
          obtain ⟨y31340, hC, rfl, rfl⟩ := hp
          replace hF := FE.lt hF (fe_s hC)
          show GW κ 4 0 0 (wM r g I30337 A30337 L30337) 50 [(0, .ref (r 0)), (1, .int z1), (2, .int z2), (3, .int z3)] [.int y31340]
          refine g_goto (tgt := 57) hk dX12_bound_50 (by decide) ?_
          have b31341l := Int32.le_toInt y31340
          have b31341h := Int32.toInt_lt y31340
          exact g_iret hk hR rfl ⟨I30337, A30337, L30337, (show Md [18] I I30337 from (Md.tr (Md.tr Md.rf hI30331 rfl) hI30337 rfl)), (show Md [18, 19, 20] A A30337 from (Md.tr (Md.tr Md.rf hA30331 rfl) hA30337 rfl)), hV30337, y31340, (show L30337 = L from (hL30337.trans hL30331)), hF, rfl, rfl⟩ dX12_bound_57
      · skip
        replace hF := FE.neg hF c30340
        refine g_aload_n hk dX12_bound_34 rfl ?_
        refine g_callV (n := 0) hk (j182_X12_endsOf l D zt r g I30337 A30337 L30337  hV30337 (by omega)) (SP.same _) (fun _ h => h) (gi_V (List.mem_cons_of_mem _ (List.mem_append_left _ (List.mem_of_getElem? (i := 18) rfl))) (List.mem_cons_of_mem _ (List.mem_append_left _ (List.mem_of_getElem? (i := 19) rfl))) (List.mem_cons_of_mem _ (List.mem_append_left _ (List.mem_of_getElem? (i := 20) rfl))) (List.mem_cons_of_mem _ (List.mem_append_left _ (List.mem_of_getElem? (i := 3) rfl))) (gi_sub (fun w h => (List.mem_cons_of_mem _ (List.mem_append_right _ (List.mem_append_right _ (List.mem_append_right _ (List.mem_append_right _ (List.mem_append_right _ (List.mem_append_right _ (List.mem_append_right _ (List.mem_append_left _ h)))))))))) zg_j182_X12_endsOf)) rfl rfl rfl (by decide +kernel) ⟨Nat.le_of_ble_eq_true rfl, Nat.le_of_ble_eq_true rfl⟩ 0 rfl rfl rfl rfl (Nat.le_of_ble_eq_true rfl) ⟨Nat.le_of_ble_eq_true rfl, Nat.le_of_ble_eq_true rfl⟩ dX12_bound_35 (fun v ty' w' hp hk' => ?_)
        obtain ⟨y31351, hC, rfl, rfl⟩ := hp
        replace hF := FE.lt hF (fe_s hC)
        show GW κ 4 0 0 (wM r g I30337 A30337 L30337) 38 [(0, .ref (r 0)), (1, .int z1), (2, .int z2), (3, .int z3)] [.int y31351]
        refine g_goto (tgt := 57) hk dX12_bound_38 (by decide) ?_
        have b31352l := Int32.le_toInt y31351
        have b31352h := Int32.toInt_lt y31351
        exact g_iret hk hR rfl ⟨I30337, A30337, L30337, (show Md [18] I I30337 from (Md.tr (Md.tr Md.rf hI30331 rfl) hI30337 rfl)), (show Md [18, 19, 20] A A30337 from (Md.tr (Md.tr Md.rf hA30331 rfl) hA30337 rfl)), hV30337, y31351, (show L30337 = L from (hL30337.trans hL30331)), hF, rfl, rfl⟩ dX12_bound_57
noncomputable def fM12_passes (I : Nat → Int32) (A : Nat → Nat → Int32) (L : Nat → Nat → Int64) (z1 : Int32) (z2 : Int32) (z3 : Int32) : Int32 × (Nat → Int32) × (Nat → Nat → Int32) × (Nat → Nat → Int64) := f_bdM (fM12_laysBoth I A L z1 z2) fun _ I31386 A31386 L31386 => f_lt (fM12_endsOf (upd (upd (upd I31386 19 0) 20 (-1)) 21 2000000000) A31386 L31386) fun y31389 => if y31389.toInt < z3.toInt then f_lt (fM12_overOf (upd (upd (upd I31386 19 0) 20 (-1)) 21 2000000000) A31386 L31386) fun y31393 => if y31393.toInt < z3.toInt then f_bdM (fM12_backOf (upd (upd (upd I31386 19 0) 20 (-1)) 21 2000000000) A31386 L31386) fun y31396 I31397 A31397 L31397 => if y31396.toInt < z3.toInt then f_bdM (fM12_laysTable I31397 A31397 L31397 z3) fun y31400 I31401 A31401 L31401 => if (I31401 20).toInt < 0 then if y31400.toInt < z3.toInt then (0, (upd I31401 21 y31400), A31401, L31401) else (5, (upd I31401 21 y31400), A31401, L31401) else (4, (upd I31401 21 y31400), A31401, L31401) else (3, I31397, A31397, L31397) else (2, (upd (upd (upd I31386 19 0) 20 (-1)) 21 2000000000), A31386, L31386) else (1, (upd (upd (upd I31386 19 0) 20 (-1)) 21 2000000000), A31386, L31386)
def wo_j184_X12_passes : List Cond := [Cond.methodLink RX12 301 yX12_laysBoth, Cond.instanceMethod yX12_laysBoth, Cond.selects RX12 yX12_laysBoth yX12_laysBoth, Cond.initialized RX12, Cond.fieldLink RX12 292 "WarpDeskModel" "laid" "I", Cond.fieldLink RX12 295 "WarpDeskModel" "brokeAt" "I", Cond.constant RX12 282 (2000000000), Cond.fieldLink RX12 311 "WarpDeskModel" "looksAt" "I", Cond.methodLink RX12 314 yX12_endsOf, Cond.instanceMethod yX12_endsOf, Cond.selects RX12 yX12_endsOf yX12_endsOf, Cond.methodLink RX12 308 yX12_overOf, Cond.instanceMethod yX12_overOf, Cond.selects RX12 yX12_overOf yX12_overOf, Cond.methodLink RX12 317 yX12_backOf, Cond.instanceMethod yX12_backOf, Cond.selects RX12 yX12_backOf yX12_backOf, Cond.methodLink RX12 304 yX12_laysTable, Cond.instanceMethod yX12_laysTable, Cond.selects RX12 yX12_laysTable yX12_laysTable]
def wz_j184_X12_passes : List Cond := .code yX12_passes cX12_passes 4 (some .int) :: (wo_j184_X12_passes ++ (wsX120 ++ (wz_j170_X12_laysBoth ++ (wz_j182_X12_endsOf ++ (wz_j181_X12_overOf ++ (wz_j180_X12_backOf ++ (wz_j173_X12_laysTable ++ ([] : List Cond))))))))
theorem zg_j184_X12_passes : ∀ w ∈ wz_j184_X12_passes, goodWord w = true := zg_cons rfl (zg_app (by decide +kernel) (zg_app zgU_wsX120 (zg_app zg_j170_X12_laysBoth (zg_app zg_j182_X12_endsOf (zg_app zg_j181_X12_overOf (zg_app zg_j180_X12_backOf (zg_app zg_j173_X12_laysTable zg_nil)))))))
theorem zi_j184_X12_passes : ∀ w ∈ wz_j184_X12_passes, w ∈ lw_tbl := zi_cons zw_1823 (zi_app (zi_cons zw_1763 (zi_cons zw_1765 (zi_cons zw_80 (zi_cons zw_115 (zi_cons zw_1419 (zi_cons zw_1420 (zi_cons zw_1775 (zi_cons zw_1421 (zi_cons zw_1803 (zi_cons zw_1805 (zi_cons zw_88 (zi_cons zw_1807 (zi_cons zw_1809 (zi_cons zw_89 (zi_cons zw_1812 (zi_cons zw_1814 (zi_cons zw_90 (zi_cons zw_1776 (zi_cons zw_1778 (zi_cons zw_83 zi_nil)))))))))))))))))))) (zi_app inX12 (zi_app zi_j170_X12_laysBoth (zi_app zi_j182_X12_endsOf (zi_app zi_j181_X12_overOf (zi_app zi_j180_X12_backOf (zi_app zi_j173_X12_laysTable zi_nil)))))))
set_option maxHeartbeats 4000000 in
set_option maxRecDepth 100000 in
theorem j184_X12_passes (l : Launch) (D : va_G) (zt : Nat × Nat × Nat × (Nat → Nat) × (Nat → Nat)) (r : Nat → Nat) (g : Nat → ClassId) (I : Nat → Int32) (A : Nat → Nat → Int32) (L : Nat → Nat → Int64) (z1 : Int32) (z2 : Int32) (z3 : Int32) (hIv : IvM I A) (hp0 : 0 ≤ z1.toInt) (hp1 : z1.toInt ≤ 4) (hp2 : 0 ≤ z2.toInt) (hp3 : z2.toInt ≤ 159) (hp4 : 1 ≤ (A 11 (5 * (I 15) + z1).toNatClampNeg).toInt) (hp5 : z2.toInt + (A 11 (5 * (I 15) + z1).toNatClampNeg).toInt ≤ 160) : GM l D zt (tyM g) yX12_passes wz_j184_X12_passes ({ frames := 5, cells := 0, slots := 0, locals := 112 } : Room) [.ref (r 0), .int z1, .int z2, .int z3] (wM r g I A L) (fun v _ w' => ∃ (I' : Nat → Int32) (A' : Nat → Nat → Int32) (L' : Nat → Nat → Int64), Md [18, 19, 20, 21] I I' ∧ Md [19, 20, 21] A A' ∧ IvM I' A' ∧ ∃ y0 : Int32, (L' = L) ∧ (0 ≤ y0.toInt) ∧ (y0.toInt ≤ 5) ∧ FE (fM12_passes I A L z1 z2 z3) (y0, I', A', L') ∧ v = some (.int y0) ∧ w' = wM r g I' A' L') 0 0 := by
  refine GM.of (cc := cX12_passes) (maxL := 4) (ret := (some .int)) (own := RX12) (lv := [(0, .ref (r 0)), (1, .int z1), (2, .int z2), (3, .int z3)]) (by decide) rfl rfl (Nat.le_of_ble_eq_true rfl) rfl (fun κ sz hk hR hN => ?_)
  have hin12 : ∀ w ∈ u_ws RX12 TX12 55, w ∈ wz_j184_X12_passes := fun w h => (List.mem_cons_of_mem _ (List.mem_append_right _ (List.mem_append_left _ h)))
  have hF : FE (fM12_passes I A L z1 z2 z3) (fM12_passes I A L z1 z2 z3) := FE.rf
  refine g_aload_n hk dX12_passes_0 rfl ?_
  refine g_iload_n hk dX12_passes_1 rfl ?_
  refine g_iload_n hk dX12_passes_2 rfl ?_
  have f31384 : 0 ≤ (A 11 (5 * (I 15) + z1).toNatClampNeg).toInt ∧ (A 11 (5 * (I 15) + z1).toNatClampNeg).toInt ≤ 16 := IvM_a11 hIv _
  refine g_callV (n := 2) hk (j170_X12_laysBoth l D zt r g I A L z1 z2 hIv (by omega) (by omega) (by omega) (by omega) (by omega) (by omega)) (SP.same _) (fun _ h => h) (gi_V (List.mem_cons_of_mem _ (List.mem_append_left _ (List.mem_of_getElem? (i := 0) rfl))) (List.mem_cons_of_mem _ (List.mem_append_left _ (List.mem_of_getElem? (i := 1) rfl))) (List.mem_cons_of_mem _ (List.mem_append_left _ (List.mem_of_getElem? (i := 2) rfl))) (List.mem_cons_of_mem _ (List.mem_append_left _ (List.mem_of_getElem? (i := 3) rfl))) (gi_sub (fun w h => (List.mem_cons_of_mem _ (List.mem_append_right _ (List.mem_append_right _ (List.mem_append_left _ h))))) zg_j170_X12_laysBoth)) rfl rfl rfl (by decide +kernel) ⟨Nat.le_of_ble_eq_true rfl, Nat.le_of_ble_eq_true rfl⟩ 0 rfl rfl rfl rfl (Nat.le_of_ble_eq_true rfl) ⟨Nat.le_of_ble_eq_true rfl, Nat.le_of_ble_eq_true rfl⟩ dX12_passes_3 (fun v ty' w' hp hk' => ?_)
  obtain ⟨I31386, A31386, L31386, hI31386, hA31386, hV31386, r31387, hL31386, hC, rfl, rfl⟩ := hp
  replace hF := FE.bdM hF hC
  have f31388 := IvM_f18 hV31386
  show GW κ 4 0 0 (wM r g I31386 A31386 L31386) 6 [(0, .ref (r 0)), (1, .int z1), (2, .int z2), (3, .int z3)] []
  refine g_aload_n hk dX12_passes_6 rfl ?_
  refine g_iconst (v := 0) hk dX12_passes_7 (by decide) ?_
  refine pM_i19 hk hin12 (List.mem_cons_of_mem _ (List.mem_append_left _ (List.mem_of_getElem? (i := 4) rfl))) dX12_passes_8 ?_
  refine g_aload_n hk dX12_passes_11 rfl ?_
  refine g_iconst (v := (-1)) hk dX12_passes_12 (by decide) ?_
  refine pM_i20 hk hin12 (List.mem_cons_of_mem _ (List.mem_append_left _ (List.mem_of_getElem? (i := 5) rfl))) dX12_passes_13 ?_
  refine g_aload_n hk dX12_passes_16 rfl ?_
  refine g_ldcw (v := 2000000000) hk (List.mem_cons_of_mem _ (List.mem_append_left _ (List.mem_of_getElem? (i := 6) rfl))) dX12_passes_17 ?_
  refine pM_i21 hk hin12 (List.mem_cons_of_mem _ (List.mem_append_left _ (List.mem_of_getElem? (i := 7) rfl))) dX12_passes_20 ?_
  refine g_aload_n hk dX12_passes_23 rfl ?_
  refine g_callV (n := 0) hk (j182_X12_endsOf l D zt r g (upd (upd (upd I31386 19 0) 20 (-1)) 21 2000000000) A31386 L31386  ⟨(IvM_f1 (I := I31386) (A := A31386) hV31386), (IvM_f2 (I := I31386) (A := A31386) hV31386), (IvM_f3 (I := I31386) (A := A31386) hV31386), (IvM_f4 (I := I31386) (A := A31386) hV31386), (IvM_f6 (I := I31386) (A := A31386) hV31386), (IvM_f8 (I := I31386) (A := A31386) hV31386), (IvM_f15 (I := I31386) (A := A31386) hV31386), (IvM_f16 (I := I31386) (A := A31386) hV31386), (IvM_f17 (I := I31386) (A := A31386) hV31386), (IvM_f18 (I := I31386) (A := A31386) hV31386), (IvM_f22 (I := I31386) (A := A31386) hV31386), (IvM_f23 (I := I31386) (A := A31386) hV31386), (IvM_f24 (I := I31386) (A := A31386) hV31386), (IvM_a11 (I := I31386) (A := A31386) hV31386), (IvM_a26 (I := I31386) (A := A31386) hV31386), (IvM_s8_0 (I := I31386) (A := A31386) hV31386), (IvM_s8_1 (I := I31386) (A := A31386) hV31386), (IvM_s10_0 (I := I31386) (A := A31386) hV31386), (IvM_s10_1 (I := I31386) (A := A31386) hV31386), (IvM_s17_0 (I := I31386) (A := A31386) hV31386), (IvM_s17_164 (I := I31386) (A := A31386) hV31386), (IvM_lv (I := I31386) (A := A31386) hV31386), (IvM_sd (I := I31386) (A := A31386) hV31386), (IvM_nq (I := I31386) (A := A31386) hV31386), (IvM_hr (I := I31386) (A := A31386) hV31386), (IvM_hh (I := I31386) (A := A31386) hV31386), trivial⟩ (by first | (rw [show ((upd (upd (upd I31386 19 0) 20 (-1)) 21 2000000000) 18) = (I31386 18) from rfl] <;> omega) | omega)) (SP.same _) (fun _ h => h) (gi_V (List.mem_cons_of_mem _ (List.mem_append_left _ (List.mem_of_getElem? (i := 8) rfl))) (List.mem_cons_of_mem _ (List.mem_append_left _ (List.mem_of_getElem? (i := 9) rfl))) (List.mem_cons_of_mem _ (List.mem_append_left _ (List.mem_of_getElem? (i := 10) rfl))) (List.mem_cons_of_mem _ (List.mem_append_left _ (List.mem_of_getElem? (i := 3) rfl))) (gi_sub (fun w h => (List.mem_cons_of_mem _ (List.mem_append_right _ (List.mem_append_right _ (List.mem_append_right _ (List.mem_append_left _ h)))))) zg_j182_X12_endsOf)) rfl rfl rfl (by decide +kernel) ⟨Nat.le_of_ble_eq_true rfl, Nat.le_of_ble_eq_true rfl⟩ 0 rfl rfl rfl rfl (Nat.le_of_ble_eq_true rfl) ⟨Nat.le_of_ble_eq_true rfl, Nat.le_of_ble_eq_true rfl⟩ dX12_passes_24 (fun v ty' w' hp hk' => ?_)
  obtain ⟨y31389, hC, rfl, rfl⟩ := hp
  replace hF := FE.lt hF (fe_s hC)
  show GW κ 4 0 0 (wM r g (upd (upd (upd I31386 19 0) 20 (-1)) 21 2000000000) A31386 L31386) 27 [(0, .ref (r 0)), (1, .int z1), (2, .int z2), (3, .int z3)] [.int y31389]
  refine g_iload_n hk dX12_passes_27 rfl ?_
  have b31390l := Int32.le_toInt y31389
  have b31390h := Int32.toInt_lt y31389
  have b31391l := Int32.le_toInt z3
  have b31391h := Int32.toInt_lt z3
  refine g_icmp_lt (tgt := 33) (a := y31389.toInt) (b := z3.toInt) hk dX12_passes_28 (by decide) rfl rfl (fun c31392 => ?_) (fun c31392 => ?_)
  · skip
    replace hF := FE.pos hF c31392
    refine g_aload_n hk dX12_passes_33 rfl ?_
    refine g_callV (n := 0) hk (j181_X12_overOf l D zt r g (upd (upd (upd I31386 19 0) 20 (-1)) 21 2000000000) A31386 L31386  ⟨(IvM_f1 (I := I31386) (A := A31386) hV31386), (IvM_f2 (I := I31386) (A := A31386) hV31386), (IvM_f3 (I := I31386) (A := A31386) hV31386), (IvM_f4 (I := I31386) (A := A31386) hV31386), (IvM_f6 (I := I31386) (A := A31386) hV31386), (IvM_f8 (I := I31386) (A := A31386) hV31386), (IvM_f15 (I := I31386) (A := A31386) hV31386), (IvM_f16 (I := I31386) (A := A31386) hV31386), (IvM_f17 (I := I31386) (A := A31386) hV31386), (IvM_f18 (I := I31386) (A := A31386) hV31386), (IvM_f22 (I := I31386) (A := A31386) hV31386), (IvM_f23 (I := I31386) (A := A31386) hV31386), (IvM_f24 (I := I31386) (A := A31386) hV31386), (IvM_a11 (I := I31386) (A := A31386) hV31386), (IvM_a26 (I := I31386) (A := A31386) hV31386), (IvM_s8_0 (I := I31386) (A := A31386) hV31386), (IvM_s8_1 (I := I31386) (A := A31386) hV31386), (IvM_s10_0 (I := I31386) (A := A31386) hV31386), (IvM_s10_1 (I := I31386) (A := A31386) hV31386), (IvM_s17_0 (I := I31386) (A := A31386) hV31386), (IvM_s17_164 (I := I31386) (A := A31386) hV31386), (IvM_lv (I := I31386) (A := A31386) hV31386), (IvM_sd (I := I31386) (A := A31386) hV31386), (IvM_nq (I := I31386) (A := A31386) hV31386), (IvM_hr (I := I31386) (A := A31386) hV31386), (IvM_hh (I := I31386) (A := A31386) hV31386), trivial⟩) (SP.same _) (fun _ h => h) (gi_V (List.mem_cons_of_mem _ (List.mem_append_left _ (List.mem_of_getElem? (i := 11) rfl))) (List.mem_cons_of_mem _ (List.mem_append_left _ (List.mem_of_getElem? (i := 12) rfl))) (List.mem_cons_of_mem _ (List.mem_append_left _ (List.mem_of_getElem? (i := 13) rfl))) (List.mem_cons_of_mem _ (List.mem_append_left _ (List.mem_of_getElem? (i := 3) rfl))) (gi_sub (fun w h => (List.mem_cons_of_mem _ (List.mem_append_right _ (List.mem_append_right _ (List.mem_append_right _ (List.mem_append_right _ (List.mem_append_left _ h))))))) zg_j181_X12_overOf)) rfl rfl rfl (by decide +kernel) ⟨Nat.le_of_ble_eq_true rfl, Nat.le_of_ble_eq_true rfl⟩ 0 rfl rfl rfl rfl (Nat.le_of_ble_eq_true rfl) ⟨Nat.le_of_ble_eq_true rfl, Nat.le_of_ble_eq_true rfl⟩ dX12_passes_34 (fun v ty' w' hp hk' => ?_)
    obtain ⟨y31393, hC, rfl, rfl⟩ := hp
    replace hF := FE.lt hF (fe_s hC)
    show GW κ 4 0 0 (wM r g (upd (upd (upd I31386 19 0) 20 (-1)) 21 2000000000) A31386 L31386) 37 [(0, .ref (r 0)), (1, .int z1), (2, .int z2), (3, .int z3)] [.int y31393]
    refine g_iload_n hk dX12_passes_37 rfl ?_
    have b31394l := Int32.le_toInt y31393
    have b31394h := Int32.toInt_lt y31393
    refine g_icmp_lt (tgt := 43) (a := y31393.toInt) (b := z3.toInt) hk dX12_passes_38 (by decide) rfl rfl (fun c31395 => ?_) (fun c31395 => ?_)
    · skip
      replace hF := FE.pos hF c31395
      refine g_aload_n hk dX12_passes_43 rfl ?_
      refine g_callV (n := 0) hk (j180_X12_backOf l D zt r g (upd (upd (upd I31386 19 0) 20 (-1)) 21 2000000000) A31386 L31386  ⟨(IvM_f1 (I := I31386) (A := A31386) hV31386), (IvM_f2 (I := I31386) (A := A31386) hV31386), (IvM_f3 (I := I31386) (A := A31386) hV31386), (IvM_f4 (I := I31386) (A := A31386) hV31386), (IvM_f6 (I := I31386) (A := A31386) hV31386), (IvM_f8 (I := I31386) (A := A31386) hV31386), (IvM_f15 (I := I31386) (A := A31386) hV31386), (IvM_f16 (I := I31386) (A := A31386) hV31386), (IvM_f17 (I := I31386) (A := A31386) hV31386), (IvM_f18 (I := I31386) (A := A31386) hV31386), (IvM_f22 (I := I31386) (A := A31386) hV31386), (IvM_f23 (I := I31386) (A := A31386) hV31386), (IvM_f24 (I := I31386) (A := A31386) hV31386), (IvM_a11 (I := I31386) (A := A31386) hV31386), (IvM_a26 (I := I31386) (A := A31386) hV31386), (IvM_s8_0 (I := I31386) (A := A31386) hV31386), (IvM_s8_1 (I := I31386) (A := A31386) hV31386), (IvM_s10_0 (I := I31386) (A := A31386) hV31386), (IvM_s10_1 (I := I31386) (A := A31386) hV31386), (IvM_s17_0 (I := I31386) (A := A31386) hV31386), (IvM_s17_164 (I := I31386) (A := A31386) hV31386), (IvM_lv (I := I31386) (A := A31386) hV31386), (IvM_sd (I := I31386) (A := A31386) hV31386), (IvM_nq (I := I31386) (A := A31386) hV31386), (IvM_hr (I := I31386) (A := A31386) hV31386), (IvM_hh (I := I31386) (A := A31386) hV31386), trivial⟩) (SP.same _) (fun _ h => h) (gi_V (List.mem_cons_of_mem _ (List.mem_append_left _ (List.mem_of_getElem? (i := 14) rfl))) (List.mem_cons_of_mem _ (List.mem_append_left _ (List.mem_of_getElem? (i := 15) rfl))) (List.mem_cons_of_mem _ (List.mem_append_left _ (List.mem_of_getElem? (i := 16) rfl))) (List.mem_cons_of_mem _ (List.mem_append_left _ (List.mem_of_getElem? (i := 3) rfl))) (gi_sub (fun w h => (List.mem_cons_of_mem _ (List.mem_append_right _ (List.mem_append_right _ (List.mem_append_right _ (List.mem_append_right _ (List.mem_append_right _ (List.mem_append_left _ h)))))))) zg_j180_X12_backOf)) rfl rfl rfl (by decide +kernel) ⟨Nat.le_of_ble_eq_true rfl, Nat.le_of_ble_eq_true rfl⟩ 0 rfl rfl rfl rfl (Nat.le_of_ble_eq_true rfl) ⟨Nat.le_of_ble_eq_true rfl, Nat.le_of_ble_eq_true rfl⟩ dX12_passes_44 (fun v ty' w' hp hk' => ?_)
      obtain ⟨I31397, A31397, L31397, hI31397, hA31397, hV31397, y31396, hL31397, hC, rfl, rfl⟩ := hp
      replace hF := FE.bdM hF hC
      show GW κ 4 0 0 (wM r g I31397 A31397 L31397) 47 [(0, .ref (r 0)), (1, .int z1), (2, .int z2), (3, .int z3)] [.int y31396]
      refine g_iload_n hk dX12_passes_47 rfl ?_
      have b31398l := Int32.le_toInt y31396
      have b31398h := Int32.toInt_lt y31396
      refine g_icmp_lt (tgt := 53) (a := y31396.toInt) (b := z3.toInt) hk dX12_passes_48 (by decide) rfl rfl (fun c31399 => ?_) (fun c31399 => ?_)
      · skip
        replace hF := FE.pos hF c31399
        refine g_aload_n hk dX12_passes_53 rfl ?_
        refine g_aload_n hk dX12_passes_54 rfl ?_
        refine g_iload_n hk dX12_passes_55 rfl ?_
        refine g_callV (n := 1) hk (j173_X12_laysTable l D zt r g I31397 A31397 L31397 z3 hV31397) (SP.same _) (fun _ h => h) (gi_V (List.mem_cons_of_mem _ (List.mem_append_left _ (List.mem_of_getElem? (i := 17) rfl))) (List.mem_cons_of_mem _ (List.mem_append_left _ (List.mem_of_getElem? (i := 18) rfl))) (List.mem_cons_of_mem _ (List.mem_append_left _ (List.mem_of_getElem? (i := 19) rfl))) (List.mem_cons_of_mem _ (List.mem_append_left _ (List.mem_of_getElem? (i := 3) rfl))) (gi_sub (fun w h => (List.mem_cons_of_mem _ (List.mem_append_right _ (List.mem_append_right _ (List.mem_append_right _ (List.mem_append_right _ (List.mem_append_right _ (List.mem_append_right _ (List.mem_append_left _ h))))))))) zg_j173_X12_laysTable)) rfl rfl rfl (by decide +kernel) ⟨Nat.le_of_ble_eq_true rfl, Nat.le_of_ble_eq_true rfl⟩ 0 rfl rfl rfl rfl (Nat.le_of_ble_eq_true rfl) ⟨Nat.le_of_ble_eq_true rfl, Nat.le_of_ble_eq_true rfl⟩ dX12_passes_56 (fun v ty' w' hp hk' => ?_)
        obtain ⟨I31401, A31401, L31401, hI31401, hA31401, hV31401, y31400, hL31401, hC, rfl, rfl⟩ := hp
        replace hF := FE.bdM hF hC
        show GW κ 4 0 0 (wM r g I31401 A31401 L31401) 59 [(0, .ref (r 0)), (1, .int z1), (2, .int z2), (3, .int z3)] [.int y31400, .ref (r 0)]
        refine pM_i21 hk hin12 (List.mem_cons_of_mem _ (List.mem_append_left _ (List.mem_of_getElem? (i := 7) rfl))) dX12_passes_59 ?_
        refine g_aload_n hk dX12_passes_62 rfl ?_
        refine gM_i20 (v := (I31401 20)) hk hin12 (List.mem_cons_of_mem _ (List.mem_append_left _ (List.mem_of_getElem? (i := 5) rfl))) dX12_passes_63 rfl ?_
        have b31402l := Int32.le_toInt (I31401 20)
        have b31402h := Int32.toInt_lt (I31401 20)
        refine g_if_lt (tgt := 73) (a := (I31401 20).toInt) hk dX12_passes_66 (by decide) rfl (fun c31403 => ?_) (fun c31403 => ?_)
        · skip
          replace hF := FE.pos hF c31403
          refine g_aload_n hk dX12_passes_73 rfl ?_
          refine gM_i21 (v := y31400) hk hin12 (List.mem_cons_of_mem _ (List.mem_append_left _ (List.mem_of_getElem? (i := 7) rfl))) dX12_passes_74 rfl ?_
          refine g_iload_n hk dX12_passes_77 rfl ?_
          have b31404l := Int32.le_toInt y31400
          have b31404h := Int32.toInt_lt y31400
          refine g_icmp_lt (tgt := 85) (a := y31400.toInt) (b := z3.toInt) hk dX12_passes_78 (by decide) rfl rfl (fun c31405 => ?_) (fun c31405 => ?_)
          · skip
            replace hF := FE.pos hF c31405
            refine g_iconst (v := 0) hk dX12_passes_85 (by decide) ?_
            exact g_iret hk hR rfl ⟨(upd I31401 21 y31400), A31401, L31401, (show Md [18, 19, 20, 21] I (upd I31401 21 y31400) from (Md.up (Md.tr (Md.tr (Md.up (Md.up (Md.up (Md.tr Md.rf hI31386 rfl) rfl) rfl) rfl) hI31397 rfl) hI31401 rfl) rfl)), (show Md [19, 20, 21] A A31401 from (Md.tr (Md.tr (Md.tr Md.rf hA31386 rfl) hA31397 rfl) hA31401 rfl)), ⟨(IvM_f1 (I := I31401) (A := A31401) hV31401), (IvM_f2 (I := I31401) (A := A31401) hV31401), (IvM_f3 (I := I31401) (A := A31401) hV31401), (IvM_f4 (I := I31401) (A := A31401) hV31401), (IvM_f6 (I := I31401) (A := A31401) hV31401), (IvM_f8 (I := I31401) (A := A31401) hV31401), (IvM_f15 (I := I31401) (A := A31401) hV31401), (IvM_f16 (I := I31401) (A := A31401) hV31401), (IvM_f17 (I := I31401) (A := A31401) hV31401), (IvM_f18 (I := I31401) (A := A31401) hV31401), (IvM_f22 (I := I31401) (A := A31401) hV31401), (IvM_f23 (I := I31401) (A := A31401) hV31401), (IvM_f24 (I := I31401) (A := A31401) hV31401), (IvM_a11 (I := I31401) (A := A31401) hV31401), (IvM_a26 (I := I31401) (A := A31401) hV31401), (IvM_s8_0 (I := I31401) (A := A31401) hV31401), (IvM_s8_1 (I := I31401) (A := A31401) hV31401), (IvM_s10_0 (I := I31401) (A := A31401) hV31401), (IvM_s10_1 (I := I31401) (A := A31401) hV31401), (IvM_s17_0 (I := I31401) (A := A31401) hV31401), (IvM_s17_164 (I := I31401) (A := A31401) hV31401), (IvM_lv (I := I31401) (A := A31401) hV31401), (IvM_sd (I := I31401) (A := A31401) hV31401), (IvM_nq (I := I31401) (A := A31401) hV31401), (IvM_hr (I := I31401) (A := A31401) hV31401), (IvM_hh (I := I31401) (A := A31401) hV31401), trivial⟩, 0, (show L31401 = L from (hL31401.trans (hL31397.trans hL31386))), (by decide), (by decide), hF, rfl, rfl⟩ dX12_passes_86
          · skip
            replace hF := FE.neg hF c31405
            refine g_iconst (v := 5) hk dX12_passes_81 (by decide) ?_
            refine g_goto (tgt := 86) hk dX12_passes_82 (by decide) ?_
            exact g_iret hk hR rfl ⟨(upd I31401 21 y31400), A31401, L31401, (show Md [18, 19, 20, 21] I (upd I31401 21 y31400) from (Md.up (Md.tr (Md.tr (Md.up (Md.up (Md.up (Md.tr Md.rf hI31386 rfl) rfl) rfl) rfl) hI31397 rfl) hI31401 rfl) rfl)), (show Md [19, 20, 21] A A31401 from (Md.tr (Md.tr (Md.tr Md.rf hA31386 rfl) hA31397 rfl) hA31401 rfl)), ⟨(IvM_f1 (I := I31401) (A := A31401) hV31401), (IvM_f2 (I := I31401) (A := A31401) hV31401), (IvM_f3 (I := I31401) (A := A31401) hV31401), (IvM_f4 (I := I31401) (A := A31401) hV31401), (IvM_f6 (I := I31401) (A := A31401) hV31401), (IvM_f8 (I := I31401) (A := A31401) hV31401), (IvM_f15 (I := I31401) (A := A31401) hV31401), (IvM_f16 (I := I31401) (A := A31401) hV31401), (IvM_f17 (I := I31401) (A := A31401) hV31401), (IvM_f18 (I := I31401) (A := A31401) hV31401), (IvM_f22 (I := I31401) (A := A31401) hV31401), (IvM_f23 (I := I31401) (A := A31401) hV31401), (IvM_f24 (I := I31401) (A := A31401) hV31401), (IvM_a11 (I := I31401) (A := A31401) hV31401), (IvM_a26 (I := I31401) (A := A31401) hV31401), (IvM_s8_0 (I := I31401) (A := A31401) hV31401), (IvM_s8_1 (I := I31401) (A := A31401) hV31401), (IvM_s10_0 (I := I31401) (A := A31401) hV31401), (IvM_s10_1 (I := I31401) (A := A31401) hV31401), (IvM_s17_0 (I := I31401) (A := A31401) hV31401), (IvM_s17_164 (I := I31401) (A := A31401) hV31401), (IvM_lv (I := I31401) (A := A31401) hV31401), (IvM_sd (I := I31401) (A := A31401) hV31401), (IvM_nq (I := I31401) (A := A31401) hV31401), (IvM_hr (I := I31401) (A := A31401) hV31401), (IvM_hh (I := I31401) (A := A31401) hV31401), trivial⟩, 5, (show L31401 = L from (hL31401.trans (hL31397.trans hL31386))), (by decide), (by decide), hF, rfl, rfl⟩ dX12_passes_86
        · skip
          replace hF := FE.neg hF c31403
          refine g_iconst (v := 4) hk dX12_passes_69 (by decide) ?_
          refine g_goto (tgt := 86) hk dX12_passes_70 (by decide) ?_
          exact g_iret hk hR rfl ⟨(upd I31401 21 y31400), A31401, L31401, (show Md [18, 19, 20, 21] I (upd I31401 21 y31400) from (Md.up (Md.tr (Md.tr (Md.up (Md.up (Md.up (Md.tr Md.rf hI31386 rfl) rfl) rfl) rfl) hI31397 rfl) hI31401 rfl) rfl)), (show Md [19, 20, 21] A A31401 from (Md.tr (Md.tr (Md.tr Md.rf hA31386 rfl) hA31397 rfl) hA31401 rfl)), ⟨(IvM_f1 (I := I31401) (A := A31401) hV31401), (IvM_f2 (I := I31401) (A := A31401) hV31401), (IvM_f3 (I := I31401) (A := A31401) hV31401), (IvM_f4 (I := I31401) (A := A31401) hV31401), (IvM_f6 (I := I31401) (A := A31401) hV31401), (IvM_f8 (I := I31401) (A := A31401) hV31401), (IvM_f15 (I := I31401) (A := A31401) hV31401), (IvM_f16 (I := I31401) (A := A31401) hV31401), (IvM_f17 (I := I31401) (A := A31401) hV31401), (IvM_f18 (I := I31401) (A := A31401) hV31401), (IvM_f22 (I := I31401) (A := A31401) hV31401), (IvM_f23 (I := I31401) (A := A31401) hV31401), (IvM_f24 (I := I31401) (A := A31401) hV31401), (IvM_a11 (I := I31401) (A := A31401) hV31401), (IvM_a26 (I := I31401) (A := A31401) hV31401), (IvM_s8_0 (I := I31401) (A := A31401) hV31401), (IvM_s8_1 (I := I31401) (A := A31401) hV31401), (IvM_s10_0 (I := I31401) (A := A31401) hV31401), (IvM_s10_1 (I := I31401) (A := A31401) hV31401), (IvM_s17_0 (I := I31401) (A := A31401) hV31401), (IvM_s17_164 (I := I31401) (A := A31401) hV31401), (IvM_lv (I := I31401) (A := A31401) hV31401), (IvM_sd (I := I31401) (A := A31401) hV31401), (IvM_nq (I := I31401) (A := A31401) hV31401), (IvM_hr (I := I31401) (A := A31401) hV31401), (IvM_hh (I := I31401) (A := A31401) hV31401), trivial⟩, 4, (show L31401 = L from (hL31401.trans (hL31397.trans hL31386))), (by decide), (by decide), hF, rfl, rfl⟩ dX12_passes_86
      · skip
        replace hF := FE.neg hF c31399
        refine g_iconst (v := 3) hk dX12_passes_51 (by decide) ?_
        exact g_iret hk hR rfl ⟨I31397, A31397, L31397, (show Md [18, 19, 20, 21] I I31397 from (Md.tr (Md.up (Md.up (Md.up (Md.tr Md.rf hI31386 rfl) rfl) rfl) rfl) hI31397 rfl)), (show Md [19, 20, 21] A A31397 from (Md.tr (Md.tr Md.rf hA31386 rfl) hA31397 rfl)), hV31397, 3, (show L31397 = L from (hL31397.trans hL31386)), (by decide), (by decide), hF, rfl, rfl⟩ dX12_passes_52
    · skip
      replace hF := FE.neg hF c31395
      refine g_iconst (v := 2) hk dX12_passes_41 (by decide) ?_
      exact g_iret hk hR rfl ⟨(upd (upd (upd I31386 19 0) 20 (-1)) 21 2000000000), A31386, L31386, (show Md [18, 19, 20, 21] I (upd (upd (upd I31386 19 0) 20 (-1)) 21 2000000000) from (Md.up (Md.up (Md.up (Md.tr Md.rf hI31386 rfl) rfl) rfl) rfl)), (show Md [19, 20, 21] A A31386 from (Md.tr Md.rf hA31386 rfl)), ⟨(IvM_f1 (I := I31386) (A := A31386) hV31386), (IvM_f2 (I := I31386) (A := A31386) hV31386), (IvM_f3 (I := I31386) (A := A31386) hV31386), (IvM_f4 (I := I31386) (A := A31386) hV31386), (IvM_f6 (I := I31386) (A := A31386) hV31386), (IvM_f8 (I := I31386) (A := A31386) hV31386), (IvM_f15 (I := I31386) (A := A31386) hV31386), (IvM_f16 (I := I31386) (A := A31386) hV31386), (IvM_f17 (I := I31386) (A := A31386) hV31386), (IvM_f18 (I := I31386) (A := A31386) hV31386), (IvM_f22 (I := I31386) (A := A31386) hV31386), (IvM_f23 (I := I31386) (A := A31386) hV31386), (IvM_f24 (I := I31386) (A := A31386) hV31386), (IvM_a11 (I := I31386) (A := A31386) hV31386), (IvM_a26 (I := I31386) (A := A31386) hV31386), (IvM_s8_0 (I := I31386) (A := A31386) hV31386), (IvM_s8_1 (I := I31386) (A := A31386) hV31386), (IvM_s10_0 (I := I31386) (A := A31386) hV31386), (IvM_s10_1 (I := I31386) (A := A31386) hV31386), (IvM_s17_0 (I := I31386) (A := A31386) hV31386), (IvM_s17_164 (I := I31386) (A := A31386) hV31386), (IvM_lv (I := I31386) (A := A31386) hV31386), (IvM_sd (I := I31386) (A := A31386) hV31386), (IvM_nq (I := I31386) (A := A31386) hV31386), (IvM_hr (I := I31386) (A := A31386) hV31386), (IvM_hh (I := I31386) (A := A31386) hV31386), trivial⟩, 2, (show L31386 = L from hL31386), (by decide), (by decide), hF, rfl, rfl⟩ dX12_passes_42
  · skip
    replace hF := FE.neg hF c31392
    refine g_iconst (v := 1) hk dX12_passes_31 (by decide) ?_
    exact g_iret hk hR rfl ⟨(upd (upd (upd I31386 19 0) 20 (-1)) 21 2000000000), A31386, L31386, (show Md [18, 19, 20, 21] I (upd (upd (upd I31386 19 0) 20 (-1)) 21 2000000000) from (Md.up (Md.up (Md.up (Md.tr Md.rf hI31386 rfl) rfl) rfl) rfl)), (show Md [19, 20, 21] A A31386 from (Md.tr Md.rf hA31386 rfl)), ⟨(IvM_f1 (I := I31386) (A := A31386) hV31386), (IvM_f2 (I := I31386) (A := A31386) hV31386), (IvM_f3 (I := I31386) (A := A31386) hV31386), (IvM_f4 (I := I31386) (A := A31386) hV31386), (IvM_f6 (I := I31386) (A := A31386) hV31386), (IvM_f8 (I := I31386) (A := A31386) hV31386), (IvM_f15 (I := I31386) (A := A31386) hV31386), (IvM_f16 (I := I31386) (A := A31386) hV31386), (IvM_f17 (I := I31386) (A := A31386) hV31386), (IvM_f18 (I := I31386) (A := A31386) hV31386), (IvM_f22 (I := I31386) (A := A31386) hV31386), (IvM_f23 (I := I31386) (A := A31386) hV31386), (IvM_f24 (I := I31386) (A := A31386) hV31386), (IvM_a11 (I := I31386) (A := A31386) hV31386), (IvM_a26 (I := I31386) (A := A31386) hV31386), (IvM_s8_0 (I := I31386) (A := A31386) hV31386), (IvM_s8_1 (I := I31386) (A := A31386) hV31386), (IvM_s10_0 (I := I31386) (A := A31386) hV31386), (IvM_s10_1 (I := I31386) (A := A31386) hV31386), (IvM_s17_0 (I := I31386) (A := A31386) hV31386), (IvM_s17_164 (I := I31386) (A := A31386) hV31386), (IvM_lv (I := I31386) (A := A31386) hV31386), (IvM_sd (I := I31386) (A := A31386) hV31386), (IvM_nq (I := I31386) (A := A31386) hV31386), (IvM_hr (I := I31386) (A := A31386) hV31386), (IvM_hh (I := I31386) (A := A31386) hV31386), trivial⟩, 1, (show L31386 = L from hL31386), (by decide), (by decide), hF, rfl, rfl⟩ dX12_passes_32
noncomputable def fM12_look (I : Nat → Int32) (A : Nat → Nat → Int32) (L : Nat → Nat → Int64) (z1 : Int32) (z2 : Int32) (z3 : Int32) (z4 : Int32) : Int32 × (Nat → Int32) × (Nat → Nat → Int32) × (Nat → Nat → Int64) := if fM12_isOf I A L z1 z2 = 0 then ((-1), I, A, L) else if z3.toInt < 0 then ((-1), I, A, L) else if fM12_in I A L z4 0 2 = 0 then ((-1), I, A, L) else f_bdM (fM12_copies I A L) fun _ I31379 A31379 L31379 => f_bdM (fM12_passes I31379 A31379 L31379 z1 z2 z3) fun y31406 I31409 A31409 L31409 => if z4.toInt ≠ 0 then if z4.toInt ≠ 1 then if (I31409 20).toInt < 0 then ((-2), I31409, A31409, L31409) else ((I31409 20), I31409, A31409, L31409) else ((I31409 19), I31409, A31409, L31409) else (y31406, I31409, A31409, L31409)
def wo_j183_X12_look : List Cond := [Cond.methodLink RX12 342 yX12_isOf, Cond.instanceMethod yX12_isOf, Cond.selects RX12 yX12_isOf yX12_isOf, Cond.initialized RX12, Cond.methodLink RX12 244 yX12_in, Cond.static yX12_in, Cond.methodLink RX12 323 yX12_copies, Cond.instanceMethod yX12_copies, Cond.selects RX12 yX12_copies yX12_copies, Cond.methodLink RX12 348 yX12_passes, Cond.instanceMethod yX12_passes, Cond.selects RX12 yX12_passes yX12_passes, Cond.fieldLink RX12 295 "WarpDeskModel" "brokeAt" "I", Cond.fieldLink RX12 292 "WarpDeskModel" "laid" "I"]
def wz_j183_X12_look : List Cond := .code yX12_look cX12_look 6 (some .int) :: (wo_j183_X12_look ++ (wsX120 ++ (wz_j168_X12_isOf ++ (wz_j145_X12_in ++ (wz_j151_X12_copies ++ (wz_j184_X12_passes ++ ([] : List Cond)))))))
theorem zg_j183_X12_look : ∀ w ∈ wz_j183_X12_look, goodWord w = true := zg_cons rfl (zg_app (by decide +kernel) (zg_app zgU_wsX120 (zg_app zg_j168_X12_isOf (zg_app zg_j145_X12_in (zg_app zg_j151_X12_copies (zg_app zg_j184_X12_passes zg_nil))))))
theorem zi_j183_X12_look : ∀ w ∈ wz_j183_X12_look, w ∈ lw_tbl := zi_cons zw_1819 (zi_app (zi_cons zw_1755 (zi_cons zw_1757 (zi_cons zw_78 (zi_cons zw_115 (zi_cons zw_1656 (zi_cons zw_1657 (zi_cons zw_1679 (zi_cons zw_1681 (zi_cons zw_70 (zi_cons zw_1820 (zi_cons zw_1822 (zi_cons zw_91 (zi_cons zw_1420 (zi_cons zw_1419 zi_nil)))))))))))))) (zi_app inX12 (zi_app zi_j168_X12_isOf (zi_app zi_j145_X12_in (zi_app zi_j151_X12_copies (zi_app zi_j184_X12_passes zi_nil))))))
set_option maxHeartbeats 4000000 in
set_option maxRecDepth 100000 in
theorem j183_X12_look (l : Launch) (D : va_G) (zt : Nat × Nat × Nat × (Nat → Nat) × (Nat → Nat)) (r : Nat → Nat) (g : Nat → ClassId) (I : Nat → Int32) (A : Nat → Nat → Int32) (L : Nat → Nat → Int64) (z1 : Int32) (z2 : Int32) (z3 : Int32) (z4 : Int32) (hIv : IvM I A) : GM l D zt (tyM g) yX12_look wz_j183_X12_look ({ frames := 6, cells := 0, slots := 0, locals := 135 } : Room) [.ref (r 0), .int z1, .int z2, .int z3, .int z4] (wM r g I A L) (fun v _ w' => ∃ (I' : Nat → Int32) (A' : Nat → Nat → Int32) (L' : Nat → Nat → Int64), Md [18, 19, 20, 21] I I' ∧ Md [18, 19, 20, 21] A A' ∧ IvM I' A' ∧ ∃ y0 : Int32, (L' = L) ∧ FE (fM12_look I A L z1 z2 z3 z4) (y0, I', A', L') ∧ v = some (.int y0) ∧ w' = wM r g I' A' L') 0 0 := by
  refine GM.of (cc := cX12_look) (maxL := 6) (ret := (some .int)) (own := RX12) (lv := [(0, .ref (r 0)), (1, .int z1), (2, .int z2), (3, .int z3), (4, .int z4)]) (by decide) rfl rfl (Nat.le_of_ble_eq_true rfl) rfl (fun κ sz hk hR hN => ?_)
  have hin12 : ∀ w ∈ u_ws RX12 TX12 55, w ∈ wz_j183_X12_look := fun w h => (List.mem_cons_of_mem _ (List.mem_append_right _ (List.mem_append_left _ h)))
  have hF : FE (fM12_look I A L z1 z2 z3 z4) (fM12_look I A L z1 z2 z3 z4) := FE.rf
  refine g_aload_n hk dX12_look_0 rfl ?_
  refine g_iload_n hk dX12_look_1 rfl ?_
  refine g_iload_n hk dX12_look_2 rfl ?_
  refine g_callV (n := 2) hk (j168_X12_isOf l D zt r g I A L z1 z2 hIv) (SP.same _) (fun _ h => h) (gi_V (List.mem_cons_of_mem _ (List.mem_append_left _ (List.mem_of_getElem? (i := 0) rfl))) (List.mem_cons_of_mem _ (List.mem_append_left _ (List.mem_of_getElem? (i := 1) rfl))) (List.mem_cons_of_mem _ (List.mem_append_left _ (List.mem_of_getElem? (i := 2) rfl))) (List.mem_cons_of_mem _ (List.mem_append_left _ (List.mem_of_getElem? (i := 3) rfl))) (gi_sub (fun w h => (List.mem_cons_of_mem _ (List.mem_append_right _ (List.mem_append_right _ (List.mem_append_left _ h))))) zg_j168_X12_isOf)) rfl rfl rfl (by decide +kernel) ⟨Nat.le_of_ble_eq_true rfl, Nat.le_of_ble_eq_true rfl⟩ 0 rfl rfl rfl rfl (Nat.le_of_ble_eq_true rfl) ⟨Nat.le_of_ble_eq_true rfl, Nat.le_of_ble_eq_true rfl⟩ dX12_look_3 (fun v ty' w' hp hk' => ?_)
  rcases hp with ⟨hC, rfl, rfl⟩ | ⟨c31354, c31355, c31356, c31357, c31358, c31359, c31360, c31361, c31362, c31363, c31364, c31365, hC, rfl, rfl⟩
  · skip
    replace hF := FE.pos hF hC
    show GW κ 6 0 0 (wM r g I A L) 6 [(0, .ref (r 0)), (1, .int z1), (2, .int z2), (3, .int z3), (4, .int z4)] [.int 0]
    refine g_if_eq (tgt := 23) (a := 0) hk dX12_look_6 (by decide) rfl (fun _ => ?_) (fun z9 => absurd (show (0 : Int) = (0 : Int) from by decide) z9)
    refine g_iconst (v := (-1)) hk dX12_look_23 (by decide) ?_
    exact g_iret hk hR rfl ⟨I, A, L, (show Md [18, 19, 20, 21] I I from Md.rf), (show Md [18, 19, 20, 21] A A from Md.rf), hIv, (-1), (show L = L from rfl), hF, rfl, rfl⟩ dX12_look_24
  · skip
    replace hF := FE.neg hF (fe_ne hC (by decide))
    have f31367 : 0 ≤ (A 11 (5 * (I 15) + z1).toNatClampNeg).toInt ∧ (A 11 (5 * (I 15) + z1).toNatClampNeg).toInt ≤ 16 := IvM_a11 hIv _
    show GW κ 6 0 0 (wM r g I A L) 6 [(0, .ref (r 0)), (1, .int z1), (2, .int z2), (3, .int z3), (4, .int z4)] [.int 1]
    refine g_if_eq (tgt := 23) (a := 1) hk dX12_look_6 (by decide) rfl (fun z9 => absurd z9 (show ¬ ((1 : Int) = (0 : Int)) from by decide)) (fun _ => ?_)
    refine g_iload_n hk dX12_look_9 rfl ?_
    have b31368l := Int32.le_toInt z3
    have b31368h := Int32.toInt_lt z3
    refine g_if_lt (tgt := 23) (a := z3.toInt) hk dX12_look_10 (by decide) rfl (fun c31369 => ?_) (fun c31369 => ?_)
    · skip
      replace hF := FE.pos hF c31369
      refine g_iconst (v := (-1)) hk dX12_look_23 (by decide) ?_
      exact g_iret hk hR rfl ⟨I, A, L, (show Md [18, 19, 20, 21] I I from Md.rf), (show Md [18, 19, 20, 21] A A from Md.rf), hIv, (-1), (show L = L from rfl), hF, rfl, rfl⟩ dX12_look_24
    · skip
      replace hF := FE.neg hF c31369
      refine g_iload hk dX12_look_13 rfl ?_
      refine g_iconst (v := 0) hk dX12_look_15 (by decide) ?_
      refine g_iconst (v := 2) hk dX12_look_16 (by decide) ?_
      have k31370 : (0 : Int32).toInt = 0 := rfl
      have k31371 : (2 : Int32).toInt = 2 := rfl
      refine g_callS (n := 3) hk (j145_X12_in l D zt r g I A L z4 0 2 hIv) (SP.same _) (fun _ h => h) (gi_S (List.mem_cons_of_mem _ (List.mem_append_left _ (List.mem_of_getElem? (i := 4) rfl))) (List.mem_cons_of_mem _ (List.mem_append_left _ (List.mem_of_getElem? (i := 5) rfl))) (List.mem_cons_of_mem _ (List.mem_append_left _ (List.mem_of_getElem? (i := 3) rfl))) (gi_sub (fun w h => (List.mem_cons_of_mem _ (List.mem_append_right _ (List.mem_append_right _ (List.mem_append_right _ (List.mem_append_left _ h)))))) zg_j145_X12_in)) rfl rfl rfl (by decide +kernel) ⟨Nat.le_of_ble_eq_true rfl, Nat.le_of_ble_eq_true rfl⟩ rfl rfl (Nat.le_of_ble_eq_true rfl) ⟨Nat.le_of_ble_eq_true rfl, Nat.le_of_ble_eq_true rfl⟩ dX12_look_17 (fun v ty' w' hp hk' => ?_)
      rcases hp with ⟨c31372, hC, rfl, rfl⟩ | ⟨c31374, c31375, hC, rfl, rfl⟩
      · skip
        replace hF := FE.pos hF hC
        have b31377l := Int32.le_toInt z4
        have b31377h := Int32.toInt_lt z4
        show GW κ 6 0 0 (wM r g I A L) 20 [(0, .ref (r 0)), (1, .int z1), (2, .int z2), (3, .int z3), (4, .int z4)] [.int 0]
        refine g_if_ne (tgt := 25) (a := 0) hk dX12_look_20 (by decide) rfl (fun z9 => absurd z9 (show ¬ ((0 : Int) ≠ (0 : Int)) from by decide)) (fun _ => ?_)
        refine g_iconst (v := (-1)) hk dX12_look_23 (by decide) ?_
        exact g_iret hk hR rfl ⟨I, A, L, (show Md [18, 19, 20, 21] I I from Md.rf), (show Md [18, 19, 20, 21] A A from Md.rf), hIv, (-1), (show L = L from rfl), hF, rfl, rfl⟩ dX12_look_24
      · skip
        replace hF := FE.neg hF (fe_ne hC (by decide))
        show GW κ 6 0 0 (wM r g I A L) 20 [(0, .ref (r 0)), (1, .int z1), (2, .int z2), (3, .int z3), (4, .int z4)] [.int 1]
        refine g_if_ne (tgt := 25) (a := 1) hk dX12_look_20 (by decide) rfl (fun _ => ?_) (fun z9 => absurd (show (1 : Int) ≠ (0 : Int) from by decide) z9)
        refine g_aload_n hk dX12_look_25 rfl ?_
        refine g_callV (n := 0) hk (j151_X12_copies l D zt r g I A L  hIv) (SP.same _) (fun _ h => h) (gi_V (List.mem_cons_of_mem _ (List.mem_append_left _ (List.mem_of_getElem? (i := 6) rfl))) (List.mem_cons_of_mem _ (List.mem_append_left _ (List.mem_of_getElem? (i := 7) rfl))) (List.mem_cons_of_mem _ (List.mem_append_left _ (List.mem_of_getElem? (i := 8) rfl))) (List.mem_cons_of_mem _ (List.mem_append_left _ (List.mem_of_getElem? (i := 3) rfl))) (gi_sub (fun w h => (List.mem_cons_of_mem _ (List.mem_append_right _ (List.mem_append_right _ (List.mem_append_right _ (List.mem_append_right _ (List.mem_append_left _ h))))))) zg_j151_X12_copies)) rfl rfl rfl (by decide +kernel) ⟨Nat.le_of_ble_eq_true rfl, Nat.le_of_ble_eq_true rfl⟩ 0 rfl rfl rfl rfl (Nat.le_of_ble_eq_true rfl) ⟨Nat.le_of_ble_eq_true rfl, Nat.le_of_ble_eq_true rfl⟩ dX12_look_26 (fun v ty' w' hp hk' => ?_)
        obtain ⟨I31379, A31379, L31379, hI31379, hA31379, hV31379, r31380, r31381, hL31379, hC, rfl, rfl⟩ := hp
        replace hF := FE.bdM hF hC
        have f31382 := IvM_s17_0 hIv
        have f31383 := IvM_s17_164 hIv
        show GW κ 6 0 0 (wM r g I31379 A31379 L31379) 29 [(0, .ref (r 0)), (1, .int z1), (2, .int z2), (3, .int z3), (4, .int z4)] []
        refine g_aload_n hk dX12_look_29 rfl ?_
        refine g_iload_n hk dX12_look_30 rfl ?_
        refine g_iload_n hk dX12_look_31 rfl ?_
        refine g_iload_n hk dX12_look_32 rfl ?_
        refine g_callV (n := 3) hk (j184_X12_passes l D zt r g I31379 A31379 L31379 z1 z2 z3 hV31379 (by omega) (by omega) (by omega) (by omega) (by first | (rw [show (A31379 11 (5 * (I31379 15) + z1).toNatClampNeg) = (A 11 (5 * (I 15) + z1).toNatClampNeg) from (by rw [show I31379 15 = (I 15) from (hI31379 15 rfl)]; exact (congrFun (hA31379 11 rfl) _))] <;> omega) | omega) (by first | (rw [show (A31379 11 (5 * (I31379 15) + z1).toNatClampNeg) = (A 11 (5 * (I 15) + z1).toNatClampNeg) from (by rw [show I31379 15 = (I 15) from (hI31379 15 rfl)]; exact (congrFun (hA31379 11 rfl) _))] <;> omega) | omega)) (SP.same _) (fun _ h => h) (gi_V (List.mem_cons_of_mem _ (List.mem_append_left _ (List.mem_of_getElem? (i := 9) rfl))) (List.mem_cons_of_mem _ (List.mem_append_left _ (List.mem_of_getElem? (i := 10) rfl))) (List.mem_cons_of_mem _ (List.mem_append_left _ (List.mem_of_getElem? (i := 11) rfl))) (List.mem_cons_of_mem _ (List.mem_append_left _ (List.mem_of_getElem? (i := 3) rfl))) (gi_sub (fun w h => (List.mem_cons_of_mem _ (List.mem_append_right _ (List.mem_append_right _ (List.mem_append_right _ (List.mem_append_right _ (List.mem_append_right _ (List.mem_append_left _ h)))))))) zg_j184_X12_passes)) rfl rfl rfl (by decide +kernel) ⟨Nat.le_of_ble_eq_true rfl, Nat.le_of_ble_eq_true rfl⟩ 0 rfl rfl rfl rfl (Nat.le_of_ble_eq_true rfl) ⟨Nat.le_of_ble_eq_true rfl, Nat.le_of_ble_eq_true rfl⟩ dX12_look_33 (fun v ty' w' hp hk' => ?_)
        obtain ⟨I31409, A31409, L31409, hI31409, hA31409, hV31409, y31406, hL31409, c31407, c31408, hC, rfl, rfl⟩ := hp
        replace hF := FE.bdM hF hC
        show GW κ 6 0 0 (wM r g I31409 A31409 L31409) 36 [(0, .ref (r 0)), (1, .int z1), (2, .int z2), (3, .int z3), (4, .int z4)] [.int y31406]
        refine g_istore (lv' := [(5, .int y31406), (0, .ref (r 0)), (1, .int z1), (2, .int z2), (3, .int z3), (4, .int z4)]) hk dX12_look_36 (by decide) rfl ?_
        refine g_iload hk dX12_look_38 rfl ?_
        refine g_if_ne (tgt := 48) (a := z4.toInt) hk dX12_look_40 (by decide) rfl (fun c31410 => ?_) (fun c31410 => ?_)
        · skip
          replace hF := FE.pos hF c31410
          refine g_iload hk dX12_look_48 rfl ?_
          refine g_iconst (v := 1) hk dX12_look_50 (by decide) ?_
          refine g_icmp_ne (tgt := 61) (a := z4.toInt) (b := 1) hk dX12_look_51 (by decide) rfl rfl (fun c31411 => ?_) (fun c31411 => ?_)
          · skip
            replace hF := FE.pos hF c31411
            refine g_aload_n hk dX12_look_61 rfl ?_
            refine gM_i20 (v := (I31409 20)) hk hin12 (List.mem_cons_of_mem _ (List.mem_append_left _ (List.mem_of_getElem? (i := 12) rfl))) dX12_look_62 rfl ?_
            have b31412l := Int32.le_toInt (I31409 20)
            have b31412h := Int32.toInt_lt (I31409 20)
            refine g_if_lt (tgt := 75) (a := (I31409 20).toInt) hk dX12_look_65 (by decide) rfl (fun c31413 => ?_) (fun c31413 => ?_)
            · skip
              replace hF := FE.pos hF c31413
              refine g_bipush (v := (-2)) hk dX12_look_75 (by decide) ?_
              exact g_iret hk hR rfl ⟨I31409, A31409, L31409, (show Md [18, 19, 20, 21] I I31409 from (Md.tr (Md.tr Md.rf hI31379 rfl) hI31409 rfl)), (show Md [18, 19, 20, 21] A A31409 from (Md.tr (Md.tr Md.rf hA31379 rfl) hA31409 rfl)), hV31409, (-2), (show L31409 = L from (hL31409.trans hL31379)), hF, rfl, rfl⟩ dX12_look_77
            · skip
              replace hF := FE.neg hF c31413
              refine g_aload_n hk dX12_look_68 rfl ?_
              refine gM_i20 (v := (I31409 20)) hk hin12 (List.mem_cons_of_mem _ (List.mem_append_left _ (List.mem_of_getElem? (i := 12) rfl))) dX12_look_69 rfl ?_
              refine g_goto (tgt := 77) hk dX12_look_72 (by decide) ?_
              exact g_iret hk hR rfl ⟨I31409, A31409, L31409, (show Md [18, 19, 20, 21] I I31409 from (Md.tr (Md.tr Md.rf hI31379 rfl) hI31409 rfl)), (show Md [18, 19, 20, 21] A A31409 from (Md.tr (Md.tr Md.rf hA31379 rfl) hA31409 rfl)), hV31409, (I31409 20), (show L31409 = L from (hL31409.trans hL31379)), hF, rfl, rfl⟩ dX12_look_77
          · skip
            replace hF := FE.neg hF c31411
            refine g_aload_n hk dX12_look_54 rfl ?_
            refine gM_i19 (v := (I31409 19)) hk hin12 (List.mem_cons_of_mem _ (List.mem_append_left _ (List.mem_of_getElem? (i := 13) rfl))) dX12_look_55 rfl ?_
            refine g_goto (tgt := 77) hk dX12_look_58 (by decide) ?_
            have b31414l := Int32.le_toInt (I31409 19)
            have b31414h := Int32.toInt_lt (I31409 19)
            exact g_iret hk hR rfl ⟨I31409, A31409, L31409, (show Md [18, 19, 20, 21] I I31409 from (Md.tr (Md.tr Md.rf hI31379 rfl) hI31409 rfl)), (show Md [18, 19, 20, 21] A A31409 from (Md.tr (Md.tr Md.rf hA31379 rfl) hA31409 rfl)), hV31409, (I31409 19), (show L31409 = L from (hL31409.trans hL31379)), hF, rfl, rfl⟩ dX12_look_77
        · skip
          replace hF := FE.neg hF c31410
          refine g_iload hk dX12_look_43 rfl ?_
          refine g_goto (tgt := 77) hk dX12_look_45 (by decide) ?_
          exact g_iret hk hR rfl ⟨I31409, A31409, L31409, (show Md [18, 19, 20, 21] I I31409 from (Md.tr (Md.tr Md.rf hI31379 rfl) hI31409 rfl)), (show Md [18, 19, 20, 21] A A31409 from (Md.tr (Md.tr Md.rf hA31379 rfl) hA31409 rfl)), hV31409, y31406, (show L31409 = L from (hL31409.trans hL31379)), hF, rfl, rfl⟩ dX12_look_77
noncomputable def bM12_fillsFar_6 (z1 : Int32) : (Int32 → (Nat → Int32) → (Nat → Nat → Int32) → (Nat → Nat → Int64) → (Int32 × (Nat → Int32) × (Nat → Nat → Int32) × (Nat → Nat → Int64))) → Int32 → (Nat → Int32) → (Nat → Nat → Int32) → (Nat → Nat → Int64) → (Int32 × (Nat → Int32) × (Nat → Nat → Int32) × (Nat → Nat → Int64)) := fun kk31535 x31436 I31439 A31439 L31439 => if 160 ≤ x31436.toInt then (0, I31439, A31439, L31439) else if fM12_isOf I31439 A31439 L31439 z1 x31436 = 0 then f_lt (x31436 + Int32.ofInt 1) fun y31553 => kk31535 y31553 I31439 (up3 A31439 24 (x31436.toNatClampNeg) (-1)) L31439 else f_bdM (fM12_distanceOf I31439 A31439 L31439 z1 x31436) fun y31555 I31556 A31556 L31556 => f_lt (x31436 + Int32.ofInt 1) fun y31559 => kk31535 y31559 I31556 (up3 A31556 24 (x31436.toNatClampNeg) y31555) L31556
noncomputable def fM12_fillsFar (I : Nat → Int32) (A : Nat → Nat → Int32) (L : Nat → Nat → Int64) (z1 : Int32) : Int32 × (Nat → Int32) × (Nat → Nat → Int32) × (Nat → Nat → Int64) := f_bdM (fM12_copies I A L) fun _ I31431 A31431 L31431 => itr_iIAL dfM (bM12_fillsFar_6 z1) FU 0 I31431 A31431 L31431
def wo_j186_X12_fillsFar : List Cond := [Cond.methodLink RX12 323 yX12_copies, Cond.instanceMethod yX12_copies, Cond.selects RX12 yX12_copies yX12_copies, Cond.initialized RX12, Cond.fieldLink RX12 91 "WarpDeskModel" "farBy" "[I", Cond.methodLink RX12 342 yX12_isOf, Cond.instanceMethod yX12_isOf, Cond.selects RX12 yX12_isOf yX12_isOf, Cond.methodLink RX12 345 yX12_distanceOf, Cond.instanceMethod yX12_distanceOf, Cond.selects RX12 yX12_distanceOf yX12_distanceOf]
def wz_j186_X12_fillsFar : List Cond := .code yX12_fillsFar cX12_fillsFar 3 none :: (wo_j186_X12_fillsFar ++ (wsX120 ++ (wz_j151_X12_copies ++ (wz_j168_X12_isOf ++ (wz_j169_X12_distanceOf ++ ([] : List Cond))))))
theorem zg_j186_X12_fillsFar : ∀ w ∈ wz_j186_X12_fillsFar, goodWord w = true := zg_cons rfl (zg_app (by decide +kernel) (zg_app zgU_wsX120 (zg_app zg_j151_X12_copies (zg_app zg_j168_X12_isOf (zg_app zg_j169_X12_distanceOf zg_nil)))))
theorem zi_j186_X12_fillsFar : ∀ w ∈ wz_j186_X12_fillsFar, w ∈ lw_tbl := zi_cons zw_1847 (zi_app (zi_cons zw_1679 (zi_cons zw_1681 (zi_cons zw_70 (zi_cons zw_115 (zi_cons zw_1426 (zi_cons zw_1755 (zi_cons zw_1757 (zi_cons zw_78 (zi_cons zw_1759 (zi_cons zw_1761 (zi_cons zw_79 zi_nil))))))))))) (zi_app inX12 (zi_app zi_j151_X12_copies (zi_app zi_j168_X12_isOf (zi_app zi_j169_X12_distanceOf zi_nil)))))
set_option maxHeartbeats 4000000 in
set_option maxRecDepth 100000 in
theorem j186_X12_fillsFar (l : Launch) (D : va_G) (zt : Nat × Nat × Nat × (Nat → Nat) × (Nat → Nat)) (r : Nat → Nat) (g : Nat → ClassId) (I : Nat → Int32) (A : Nat → Nat → Int32) (L : Nat → Nat → Int64) (z1 : Int32) (hIv : IvM I A) (hp0 : 0 ≤ z1.toInt) (hp1 : z1.toInt ≤ 4) : GM l D zt (tyM g) yX12_fillsFar wz_j186_X12_fillsFar ({ frames := 6, cells := 0, slots := 0, locals := 134 } : Room) [.ref (r 0), .int z1] (wM r g I A L) (fun v _ w' => ∃ (I' : Nat → Int32) (A' : Nat → Nat → Int32) (L' : Nat → Nat → Int64), Md [18, 19, 20] I I' ∧ Md [18, 19, 20, 21, 24] A A' ∧ IvM I' A' ∧ (1 ≤ (A' 18 164).toInt) ∧ (L' = L) ∧ FE (fM12_fillsFar I A L z1) (0, I', A', L') ∧ v = none ∧ w' = wM r g I' A' L') 0 0 := by
  refine GM.of (cc := cX12_fillsFar) (maxL := 3) (ret := none) (own := RX12) (lv := [(0, .ref (r 0)), (1, .int z1)]) (by decide) rfl rfl (Nat.le_of_ble_eq_true rfl) rfl (fun κ sz hk hR hN => ?_)
  have hin12 : ∀ w ∈ u_ws RX12 TX12 55, w ∈ wz_j186_X12_fillsFar := fun w h => (List.mem_cons_of_mem _ (List.mem_append_right _ (List.mem_append_left _ h)))
  have hF : FE (fM12_fillsFar I A L z1) (fM12_fillsFar I A L z1) := FE.rf
  refine g_aload_n hk dX12_fillsFar_0 rfl ?_
  refine g_callV (n := 0) hk (j151_X12_copies l D zt r g I A L  hIv) (SP.same _) (fun _ h => h) (gi_V (List.mem_cons_of_mem _ (List.mem_append_left _ (List.mem_of_getElem? (i := 0) rfl))) (List.mem_cons_of_mem _ (List.mem_append_left _ (List.mem_of_getElem? (i := 1) rfl))) (List.mem_cons_of_mem _ (List.mem_append_left _ (List.mem_of_getElem? (i := 2) rfl))) (List.mem_cons_of_mem _ (List.mem_append_left _ (List.mem_of_getElem? (i := 3) rfl))) (gi_sub (fun w h => (List.mem_cons_of_mem _ (List.mem_append_right _ (List.mem_append_right _ (List.mem_append_left _ h))))) zg_j151_X12_copies)) rfl rfl rfl (by decide +kernel) ⟨Nat.le_of_ble_eq_true rfl, Nat.le_of_ble_eq_true rfl⟩ 0 rfl rfl rfl rfl (Nat.le_of_ble_eq_true rfl) ⟨Nat.le_of_ble_eq_true rfl, Nat.le_of_ble_eq_true rfl⟩ dX12_fillsFar_1 (fun v ty' w' hp hk' => ?_)
  obtain ⟨I31431, A31431, L31431, hI31431, hA31431, hV31431, r31432, r31433, hL31431, hC, rfl, rfl⟩ := hp
  replace hF := FE.bdM hF hC
  have f31434 := IvM_s17_0 hIv
  have f31435 := IvM_s17_164 hIv
  show GW κ 3 0 0 (wM r g I31431 A31431 L31431) 4 [(0, .ref (r 0)), (1, .int z1)] []
  refine g_iconst (v := 0) hk dX12_fillsFar_4 (by decide) ?_
  refine g_istore_n (lv' := [(2, .int 0), (0, .ref (r 0)), (1, .int z1)]) hk dX12_fillsFar_5 (by decide) rfl ?_
  have lp31532 : ∀ (n31533 : Nat) (x31436 : Int32) (I31439 : Nat → Int32) (A31439 : Nat → Nat → Int32) (L31439 : Nat → Nat → Int64), (Md [18, 19, 20] I31431 I31439) → (Md [19, 20, 21, 24] A31431 A31439) → (IvM I31439 A31439) → (L31439 = L31431) → (0 ≤ x31436.toInt) → (x31436.toInt ≤ 160) → (161 - x31436.toInt < (n31533 : Int)) → (0 < n31533) → (FE (fM12_fillsFar I A L z1) (itr_iIAL dfM (bM12_fillsFar_6 z1) n31533 x31436 I31439 A31439 L31439)) → GW κ 3 0 0 (wM r g I31439 A31439 L31439) 6 [(2, .int x31436), (0, .ref (r 0)), (1, .int z1)] [] := by
    intro n31533
    induction n31533 with
    | zero =>
      intro x31436 I31439 A31439 L31439 hI31439 hA31439 hV31439 hL31439 h31530 h31531 m31534 m31534z hF
      exact absurd m31534z (Nat.lt_irrefl 0)
    | succ n31533 ih31536 =>
      intro x31436 I31439 A31439 L31439 hI31439 hA31439 hV31439 hL31439 h31530 h31531 m31534 m31534z hF
      replace hF := FE.itr_iIAL hF
      refine g_iload_n hk dX12_fillsFar_6 rfl ?_
      refine g_sipush (v := 160) hk dX12_fillsFar_7 (by decide) ?_
      refine g_icmp_ge (tgt := 44) (a := x31436.toInt) (b := 160) hk dX12_fillsFar_10 (by decide) rfl rfl (fun c31537 => ?_) (fun c31537 => ?_)
      · skip
        replace hF := FE.pos hF c31537
        exact g_vret hk hR ⟨I31439, A31439, L31439, (show Md [18, 19, 20] I I31439 from (Md.tr (Md.tr Md.rf hI31431 rfl) hI31439 rfl)), (show Md [18, 19, 20, 21, 24] A A31439 from (Md.tr (Md.tr Md.rf hA31431 rfl) hA31439 rfl)), hV31439, (by rw [show (A31439 18 164) = (A31431 18 164) from (congrFun (hA31439 18 rfl) _)] <;> omega), (show L31439 = L from (hL31439.trans hL31431)), hF, rfl, rfl⟩ dX12_fillsFar_44
      · skip
        replace hF := FE.neg hF c31537
        refine g_aload_n hk dX12_fillsFar_13 rfl ?_
        refine gM_r0_48 hk hin12 (List.mem_cons_of_mem _ (List.mem_append_left _ (List.mem_of_getElem? (i := 4) rfl))) dX12_fillsFar_14 ?_
        refine g_iload_n hk dX12_fillsFar_17 rfl ?_
        refine g_aload_n hk dX12_fillsFar_18 rfl ?_
        refine g_iload_n hk dX12_fillsFar_19 rfl ?_
        refine g_iload_n hk dX12_fillsFar_20 rfl ?_
        refine g_callV (n := 2) hk (j168_X12_isOf l D zt r g I31439 A31439 L31439 z1 x31436 hV31439) (SP.same _) (fun _ h => h) (gi_V (List.mem_cons_of_mem _ (List.mem_append_left _ (List.mem_of_getElem? (i := 5) rfl))) (List.mem_cons_of_mem _ (List.mem_append_left _ (List.mem_of_getElem? (i := 6) rfl))) (List.mem_cons_of_mem _ (List.mem_append_left _ (List.mem_of_getElem? (i := 7) rfl))) (List.mem_cons_of_mem _ (List.mem_append_left _ (List.mem_of_getElem? (i := 3) rfl))) (gi_sub (fun w h => (List.mem_cons_of_mem _ (List.mem_append_right _ (List.mem_append_right _ (List.mem_append_right _ (List.mem_append_left _ h)))))) zg_j168_X12_isOf)) rfl rfl rfl (by decide +kernel) ⟨Nat.le_of_ble_eq_true rfl, Nat.le_of_ble_eq_true rfl⟩ 0 rfl rfl rfl rfl (Nat.le_of_ble_eq_true rfl) ⟨Nat.le_of_ble_eq_true rfl, Nat.le_of_ble_eq_true rfl⟩ dX12_fillsFar_21 (fun v ty' w' hp hk' => ?_)
        rcases hp with ⟨hC, rfl, rfl⟩ | ⟨c31539, c31540, c31541, c31542, c31543, c31544, c31545, c31546, c31547, c31548, c31549, c31550, hC, rfl, rfl⟩
        · skip
          replace hF := FE.pos hF hC
          show GW κ 3 0 0 (wM r g I31439 A31439 L31439) 24 [(2, .int x31436), (0, .ref (r 0)), (1, .int z1)] [.int 0, .int x31436, .ref (r 25)]
          refine g_if_eq (tgt := 36) (a := 0) hk dX12_fillsFar_24 (by decide) rfl (fun _ => ?_) (fun z9 => absurd (show (0 : Int) = (0 : Int) from by decide) z9)
          refine g_iconst (v := (-1)) hk dX12_fillsFar_36 (by decide) ?_
          have k31552 : ((-1) : Int32).toInt = (-1) := rfl
          refine sM_24 (j := x31436.toNatClampNeg) hk (vp_in_iff.mpr ⟨by omega, by omega⟩) rfl dX12_fillsFar_37 ?_
          obtain ⟨y31553, ey31553⟩ : ∃ y : Int32, y = x31436 + Int32.ofInt 1 := ⟨_, rfl⟩
          replace hF := FE.lt hF ey31553
          have hy31553 : y31553.toInt = x31436.toInt + 1 := i32_add ey31553 rfl (by decide) (by omega) (by omega)
          refine g_iinc (v := y31553) (lv' := [(2, .int y31553), (0, .ref (r 0)), (1, .int z1)]) hk 0 dX12_fillsFar_38 rfl ey31553.symm (by decide) rfl ?_
          refine g_goto (tgt := 6) hk dX12_fillsFar_41 (by decide) ?_
          exact g_lv (List.forall_mem_cons.mpr ⟨List.mem_of_getElem? (i := 0) rfl, (List.forall_mem_cons.mpr ⟨List.mem_of_getElem? (i := 1) rfl, (List.forall_mem_cons.mpr ⟨List.mem_of_getElem? (i := 2) rfl, (fun _ h => absurd h List.not_mem_nil)⟩)⟩)⟩) (ih31536 y31553 I31439 (up3 A31439 24 (x31436.toNatClampNeg) (-1)) L31439 (show Md [18, 19, 20] I31431 I31439 from Md.tr hI31439 (show Md [18, 19, 20] I31439 I31439 from Md.rf) rfl) (show Md [19, 20, 21, 24] A31431 (up3 A31439 24 (x31436.toNatClampNeg) (-1)) from Md.tr hA31439 (show Md [19, 20, 21, 24] A31439 (up3 A31439 24 (x31436.toNatClampNeg) (-1)) from (Md.up3 Md.rf rfl)) rfl) ⟨(IvM_f1 (I := I31439) (A := A31439) hV31439), (IvM_f2 (I := I31439) (A := A31439) hV31439), (IvM_f3 (I := I31439) (A := A31439) hV31439), (IvM_f4 (I := I31439) (A := A31439) hV31439), (IvM_f6 (I := I31439) (A := A31439) hV31439), (IvM_f8 (I := I31439) (A := A31439) hV31439), (IvM_f15 (I := I31439) (A := A31439) hV31439), (IvM_f16 (I := I31439) (A := A31439) hV31439), (IvM_f17 (I := I31439) (A := A31439) hV31439), (IvM_f18 (I := I31439) (A := A31439) hV31439), (IvM_f22 (I := I31439) (A := A31439) hV31439), (IvM_f23 (I := I31439) (A := A31439) hV31439), (IvM_f24 (I := I31439) (A := A31439) hV31439), (IvM_a11 (I := I31439) (A := A31439) hV31439), (IvM_a26 (I := I31439) (A := A31439) hV31439), (IvM_s8_0 (I := I31439) (A := A31439) hV31439), (IvM_s8_1 (I := I31439) (A := A31439) hV31439), (IvM_s10_0 (I := I31439) (A := A31439) hV31439), (IvM_s10_1 (I := I31439) (A := A31439) hV31439), (IvM_s17_0 (I := I31439) (A := A31439) hV31439), (IvM_s17_164 (I := I31439) (A := A31439) hV31439), (IvM_lv (I := I31439) (A := A31439) hV31439), (IvM_sd (I := I31439) (A := A31439) hV31439), (IvM_nq (I := I31439) (A := A31439) hV31439), (IvM_hr (I := I31439) (A := A31439) hV31439), (IvM_hh (I := I31439) (A := A31439) hV31439), trivial⟩ (show L31439 = L31431 from hL31439) (by omega) (by omega) (by omega) (by omega) hF)
        · skip
          replace hF := FE.neg hF (fe_ne hC (by decide))
          have f31554 : 0 ≤ (A 11 (5 * (I 15) + z1).toNatClampNeg).toInt ∧ (A 11 (5 * (I 15) + z1).toNatClampNeg).toInt ≤ 16 := IvM_a11 hIv _
          rw [show (A31439 11 (5 * (I31439 15) + z1).toNatClampNeg) = (A 11 (5 * (I 15) + z1).toNatClampNeg) from (by rw [show I31439 15 = (I 15) from ((hI31439 15 rfl).trans (hI31431 15 rfl))]; exact ((congrFun (hA31439 11 rfl) _).trans (congrFun (hA31431 11 rfl) _)))] at c31549
          rw [show (A31439 11 (5 * (I31439 15) + z1).toNatClampNeg) = (A 11 (5 * (I 15) + z1).toNatClampNeg) from (by rw [show I31439 15 = (I 15) from ((hI31439 15 rfl).trans (hI31431 15 rfl))]; exact ((congrFun (hA31439 11 rfl) _).trans (congrFun (hA31431 11 rfl) _)))] at c31550
          show GW κ 3 0 0 (wM r g I31439 A31439 L31439) 24 [(2, .int x31436), (0, .ref (r 0)), (1, .int z1)] [.int 1, .int x31436, .ref (r 25)]
          refine g_if_eq (tgt := 36) (a := 1) hk dX12_fillsFar_24 (by decide) rfl (fun z9 => absurd z9 (show ¬ ((1 : Int) = (0 : Int)) from by decide)) (fun _ => ?_)
          refine g_aload_n hk dX12_fillsFar_27 rfl ?_
          refine g_iload_n hk dX12_fillsFar_28 rfl ?_
          refine g_iload_n hk dX12_fillsFar_29 rfl ?_
          refine g_callV (n := 2) hk (j169_X12_distanceOf l D zt r g I31439 A31439 L31439 z1 x31436 hV31439 (by omega) (by omega) (by omega) (by omega) (by first | (rw [show (A31439 11 (5 * (I31439 15) + z1).toNatClampNeg) = (A 11 (5 * (I 15) + z1).toNatClampNeg) from (by rw [show I31439 15 = (I 15) from ((hI31439 15 rfl).trans (hI31431 15 rfl))]; exact ((congrFun (hA31439 11 rfl) _).trans (congrFun (hA31431 11 rfl) _)))] <;> omega) | omega) (by first | (rw [show (A31439 11 (5 * (I31439 15) + z1).toNatClampNeg) = (A 11 (5 * (I 15) + z1).toNatClampNeg) from (by rw [show I31439 15 = (I 15) from ((hI31439 15 rfl).trans (hI31431 15 rfl))]; exact ((congrFun (hA31439 11 rfl) _).trans (congrFun (hA31431 11 rfl) _)))] <;> omega) | omega)) (SP.same _) (fun _ h => h) (gi_V (List.mem_cons_of_mem _ (List.mem_append_left _ (List.mem_of_getElem? (i := 8) rfl))) (List.mem_cons_of_mem _ (List.mem_append_left _ (List.mem_of_getElem? (i := 9) rfl))) (List.mem_cons_of_mem _ (List.mem_append_left _ (List.mem_of_getElem? (i := 10) rfl))) (List.mem_cons_of_mem _ (List.mem_append_left _ (List.mem_of_getElem? (i := 3) rfl))) (gi_sub (fun w h => (List.mem_cons_of_mem _ (List.mem_append_right _ (List.mem_append_right _ (List.mem_append_right _ (List.mem_append_right _ (List.mem_append_left _ h))))))) zg_j169_X12_distanceOf)) rfl rfl rfl (by decide +kernel) ⟨Nat.le_of_ble_eq_true rfl, Nat.le_of_ble_eq_true rfl⟩ 0 rfl rfl rfl rfl (Nat.le_of_ble_eq_true rfl) ⟨Nat.le_of_ble_eq_true rfl, Nat.le_of_ble_eq_true rfl⟩ dX12_fillsFar_30 (fun v ty' w' hp hk' => ?_)
          obtain ⟨I31556, A31556, L31556, hI31556, hA31556, hV31556, y31555, r31557, hL31556, hC, rfl, rfl⟩ := hp
          replace hF := FE.bdM hF hC
          have f31558 := IvM_f18 hV31556
          show GW κ 3 0 0 (wM r g I31556 A31556 L31556) 33 [(2, .int x31436), (0, .ref (r 0)), (1, .int z1)] [.int y31555, .int x31436, .ref (r 25)]
          refine g_goto (tgt := 37) hk dX12_fillsFar_33 (by decide) ?_
          refine sM_24 (j := x31436.toNatClampNeg) hk (vp_in_iff.mpr ⟨by omega, by omega⟩) rfl dX12_fillsFar_37 ?_
          obtain ⟨y31559, ey31559⟩ : ∃ y : Int32, y = x31436 + Int32.ofInt 1 := ⟨_, rfl⟩
          replace hF := FE.lt hF ey31559
          have hy31559 : y31559.toInt = x31436.toInt + 1 := i32_add ey31559 rfl (by decide) (by omega) (by omega)
          refine g_iinc (v := y31559) (lv' := [(2, .int y31559), (0, .ref (r 0)), (1, .int z1)]) hk 0 dX12_fillsFar_38 rfl ey31559.symm (by decide) rfl ?_
          refine g_goto (tgt := 6) hk dX12_fillsFar_41 (by decide) ?_
          exact g_lv (List.forall_mem_cons.mpr ⟨List.mem_of_getElem? (i := 0) rfl, (List.forall_mem_cons.mpr ⟨List.mem_of_getElem? (i := 1) rfl, (List.forall_mem_cons.mpr ⟨List.mem_of_getElem? (i := 2) rfl, (fun _ h => absurd h List.not_mem_nil)⟩)⟩)⟩) (ih31536 y31559 I31556 (up3 A31556 24 (x31436.toNatClampNeg) y31555) L31556 (show Md [18, 19, 20] I31431 I31556 from Md.tr hI31439 (show Md [18, 19, 20] I31439 I31556 from (Md.tr Md.rf hI31556 rfl)) rfl) (show Md [19, 20, 21, 24] A31431 (up3 A31556 24 (x31436.toNatClampNeg) y31555) from Md.tr hA31439 (show Md [19, 20, 21, 24] A31439 (up3 A31556 24 (x31436.toNatClampNeg) y31555) from (Md.up3 (Md.tr Md.rf hA31556 rfl) rfl)) rfl) ⟨(IvM_f1 (I := I31556) (A := A31556) hV31556), (IvM_f2 (I := I31556) (A := A31556) hV31556), (IvM_f3 (I := I31556) (A := A31556) hV31556), (IvM_f4 (I := I31556) (A := A31556) hV31556), (IvM_f6 (I := I31556) (A := A31556) hV31556), (IvM_f8 (I := I31556) (A := A31556) hV31556), (IvM_f15 (I := I31556) (A := A31556) hV31556), (IvM_f16 (I := I31556) (A := A31556) hV31556), (IvM_f17 (I := I31556) (A := A31556) hV31556), (IvM_f18 (I := I31556) (A := A31556) hV31556), (IvM_f22 (I := I31556) (A := A31556) hV31556), (IvM_f23 (I := I31556) (A := A31556) hV31556), (IvM_f24 (I := I31556) (A := A31556) hV31556), (IvM_a11 (I := I31556) (A := A31556) hV31556), (IvM_a26 (I := I31556) (A := A31556) hV31556), (IvM_s8_0 (I := I31556) (A := A31556) hV31556), (IvM_s8_1 (I := I31556) (A := A31556) hV31556), (IvM_s10_0 (I := I31556) (A := A31556) hV31556), (IvM_s10_1 (I := I31556) (A := A31556) hV31556), (IvM_s17_0 (I := I31556) (A := A31556) hV31556), (IvM_s17_164 (I := I31556) (A := A31556) hV31556), (IvM_lv (I := I31556) (A := A31556) hV31556), (IvM_sd (I := I31556) (A := A31556) hV31556), (IvM_nq (I := I31556) (A := A31556) hV31556), (IvM_hr (I := I31556) (A := A31556) hV31556), (IvM_hh (I := I31556) (A := A31556) hV31556), trivial⟩ (show L31556 = L31431 from (hL31556.trans hL31439)) (by omega) (by omega) (by omega) (by omega) hF)
  have k31560 : (0 : Int32).toInt = 0 := rfl
  have b31562 := Int32.le_toInt (0 : Int32)
  have b31563 := Int32.toInt_lt (0 : Int32)
  have n31561a : 161 - (0 : Int32).toInt < (FU : Int) := by have := FU_eq; omega
  have n31561b : 0 < FU := by have := FU_eq; omega
  exact lp31532 FU 0 I31431 A31431 L31431 Md.rf Md.rf hV31431 rfl (by omega) (by omega) n31561a n31561b hF
noncomputable def bM12_bestWindow_5 (I : Nat → Int32) (A : Nat → Nat → Int32) (L : Nat → Nat → Int64) : (Int32 → Int32 → (Int32)) → Int32 → Int32 → (Int32) := fun kk31621 x31567 x31568 => if 160 ≤ x31567.toInt then x31568 else if (A 24 x31567.toNatClampNeg).toInt < 0 then f_lt (x31567 + Int32.ofInt 1) fun y31626 => kk31621 y31626 x31568 else if x31568.toInt < 0 then f_lt (x31567 + Int32.ofInt 1) fun y31628 => kk31621 y31628 x31567 else if (A 24 x31568.toNatClampNeg).toInt ≤ (A 24 x31567.toNatClampNeg).toInt then f_lt (x31567 + Int32.ofInt 1) fun y31631 => kk31621 y31631 x31568 else f_lt (x31567 + Int32.ofInt 1) fun y31632 => kk31621 y31632 x31567
noncomputable def fM12_bestWindow (I : Nat → Int32) (A : Nat → Nat → Int32) (L : Nat → Nat → Int64) : Int32 := itr_ii (0 : Int32) (bM12_bestWindow_5 I A L) FU 0 (-2)
def wo_j187_X12_bestWindow : List Cond := [Cond.fieldLink RX12 91 "WarpDeskModel" "farBy" "[I"]
def wz_j187_X12_bestWindow : List Cond := .code yX12_bestWindow cX12_bestWindow 3 (some .int) :: (wo_j187_X12_bestWindow ++ (wsX120 ++ ([] : List Cond)))
theorem zg_j187_X12_bestWindow : ∀ w ∈ wz_j187_X12_bestWindow, goodWord w = true := zg_cons rfl (zg_app (by decide +kernel) (zg_app zgU_wsX120 zg_nil))
theorem zi_j187_X12_bestWindow : ∀ w ∈ wz_j187_X12_bestWindow, w ∈ lw_tbl := zi_cons zw_1851 (zi_app (zi_cons zw_1426 zi_nil) (zi_app inX12 zi_nil))
set_option maxHeartbeats 4000000 in
set_option maxRecDepth 100000 in
theorem j187_X12_bestWindow (l : Launch) (D : va_G) (zt : Nat × Nat × Nat × (Nat → Nat) × (Nat → Nat)) (r : Nat → Nat) (g : Nat → ClassId) (I : Nat → Int32) (A : Nat → Nat → Int32) (L : Nat → Nat → Int64) (hIv : IvM I A) : GM l D zt (tyM g) yX12_bestWindow wz_j187_X12_bestWindow ({ frames := 0, cells := 0, slots := 0, locals := 0 } : Room) [.ref (r 0)] (wM r g I A L) (fun v _ w' => ∃ y0 : Int32, ((-2) ≤ y0.toInt) ∧ (y0.toInt ≤ 159) ∧ FE (fM12_bestWindow I A L) y0 ∧ v = some (.int y0) ∧ w' = wM r g I A L) 0 0 := by
  refine GM.of (cc := cX12_bestWindow) (maxL := 3) (ret := (some .int)) (own := RX12) (lv := [(0, .ref (r 0))]) (by decide) rfl rfl (Nat.le_of_ble_eq_true rfl) rfl (fun κ sz hk hR hN => ?_)
  have hin12 : ∀ w ∈ u_ws RX12 TX12 55, w ∈ wz_j187_X12_bestWindow := fun w h => (List.mem_cons_of_mem _ (List.mem_append_right _ (List.mem_append_left _ h)))
  have hF : FE (fM12_bestWindow I A L) (fM12_bestWindow I A L) := FE.rf
  refine g_bipush (v := (-2)) hk dX12_bestWindow_0 (by decide) ?_
  refine g_istore_n (lv' := [(1, .int (-2)), (0, .ref (r 0))]) hk dX12_bestWindow_2 (by decide) rfl ?_
  refine g_iconst (v := 0) hk dX12_bestWindow_3 (by decide) ?_
  refine g_istore_n (lv' := [(2, .int 0), (1, .int (-2)), (0, .ref (r 0))]) hk dX12_bestWindow_4 (by decide) rfl ?_
  have lp31618 : ∀ (n31619 : Nat) (x31567 : Int32) (x31568 : Int32), (0 ≤ x31567.toInt) → (x31567.toInt ≤ 160) → ((-2) ≤ x31568.toInt) → (x31568.toInt ≤ 159) → (161 - x31567.toInt < (n31619 : Int)) → (0 < n31619) → (FE (fM12_bestWindow I A L) (itr_ii (0 : Int32) (bM12_bestWindow_5 I A L) n31619 x31567 x31568)) → GW κ 3 0 0 (wM r g I A L) 5 [(2, .int x31567), (1, .int x31568), (0, .ref (r 0))] [] := by
    intro n31619
    induction n31619 with
    | zero =>
      intro x31567 x31568 h31614 h31615 h31616 h31617 m31620 m31620z hF
      exact absurd m31620z (Nat.lt_irrefl 0)
    | succ n31619 ih31622 =>
      intro x31567 x31568 h31614 h31615 h31616 h31617 m31620 m31620z hF
      replace hF := FE.itr_ii hF
      refine g_iload_n hk dX12_bestWindow_5 rfl ?_
      refine g_sipush (v := 160) hk dX12_bestWindow_6 (by decide) ?_
      refine g_icmp_ge (tgt := 48) (a := x31567.toInt) (b := 160) hk dX12_bestWindow_9 (by decide) rfl rfl (fun c31623 => ?_) (fun c31623 => ?_)
      · skip
        replace hF := FE.pos hF c31623
        refine g_iload_n hk dX12_bestWindow_48 rfl ?_
        exact g_iret hk hR rfl ⟨x31568, (by omega), (by omega), hF, rfl, rfl⟩ dX12_bestWindow_49
      · skip
        replace hF := FE.neg hF c31623
        refine g_aload_n hk dX12_bestWindow_12 rfl ?_
        refine gM_r0_48 hk hin12 (List.mem_cons_of_mem _ (List.mem_append_left _ (List.mem_of_getElem? (i := 0) rfl))) dX12_bestWindow_13 ?_
        refine g_iload_n hk dX12_bestWindow_16 rfl ?_
        refine lM_24 (v := (A 24 x31567.toNatClampNeg)) hk (vp_in_iff.mpr ⟨by omega, by omega⟩) rfl dX12_bestWindow_17 ?_
        have b31624l := Int32.le_toInt (A 24 x31567.toNatClampNeg)
        have b31624h := Int32.toInt_lt (A 24 x31567.toNatClampNeg)
        refine g_if_lt (tgt := 42) (a := (A 24 x31567.toNatClampNeg).toInt) hk dX12_bestWindow_18 (by decide) rfl (fun c31625 => ?_) (fun c31625 => ?_)
        · skip
          replace hF := FE.pos hF c31625
          obtain ⟨y31626, ey31626⟩ : ∃ y : Int32, y = x31567 + Int32.ofInt 1 := ⟨_, rfl⟩
          replace hF := FE.lt hF ey31626
          have hy31626 : y31626.toInt = x31567.toInt + 1 := i32_add ey31626 rfl (by decide) (by omega) (by omega)
          refine g_iinc (v := y31626) (lv' := [(2, .int y31626), (1, .int x31568), (0, .ref (r 0))]) hk 0 dX12_bestWindow_42 rfl ey31626.symm (by decide) rfl ?_
          refine g_goto (tgt := 5) hk dX12_bestWindow_45 (by decide) ?_
          exact g_lv (List.forall_mem_cons.mpr ⟨List.mem_of_getElem? (i := 0) rfl, (List.forall_mem_cons.mpr ⟨List.mem_of_getElem? (i := 1) rfl, (List.forall_mem_cons.mpr ⟨List.mem_of_getElem? (i := 2) rfl, (fun _ h => absurd h List.not_mem_nil)⟩)⟩)⟩) (ih31622 y31626 x31568 (by omega) (by omega) (by omega) (by omega) (by omega) (by omega) hF)
        · skip
          replace hF := FE.neg hF c31625
          refine g_iload_n hk dX12_bestWindow_21 rfl ?_
          refine g_if_lt (tgt := 40) (a := x31568.toInt) hk dX12_bestWindow_22 (by decide) rfl (fun c31627 => ?_) (fun c31627 => ?_)
          · skip
            replace hF := FE.pos hF c31627
            refine g_iload_n hk dX12_bestWindow_40 rfl ?_
            refine g_istore_n (lv' := [(1, .int x31567), (2, .int x31567), (0, .ref (r 0))]) hk dX12_bestWindow_41 (by decide) rfl ?_
            obtain ⟨y31628, ey31628⟩ : ∃ y : Int32, y = x31567 + Int32.ofInt 1 := ⟨_, rfl⟩
            replace hF := FE.lt hF ey31628
            have hy31628 : y31628.toInt = x31567.toInt + 1 := i32_add ey31628 rfl (by decide) (by omega) (by omega)
            refine g_iinc (v := y31628) (lv' := [(2, .int y31628), (1, .int x31567), (0, .ref (r 0))]) hk 1 dX12_bestWindow_42 rfl ey31628.symm (by decide) rfl ?_
            refine g_goto (tgt := 5) hk dX12_bestWindow_45 (by decide) ?_
            exact g_lv (List.forall_mem_cons.mpr ⟨List.mem_of_getElem? (i := 0) rfl, (List.forall_mem_cons.mpr ⟨List.mem_of_getElem? (i := 1) rfl, (List.forall_mem_cons.mpr ⟨List.mem_of_getElem? (i := 2) rfl, (fun _ h => absurd h List.not_mem_nil)⟩)⟩)⟩) (ih31622 y31628 x31567 (by omega) (by omega) (by omega) (by omega) (by omega) (by omega) hF)
          · skip
            replace hF := FE.neg hF c31627
            refine g_aload_n hk dX12_bestWindow_25 rfl ?_
            refine gM_r0_48 hk hin12 (List.mem_cons_of_mem _ (List.mem_append_left _ (List.mem_of_getElem? (i := 0) rfl))) dX12_bestWindow_26 ?_
            refine g_iload_n hk dX12_bestWindow_29 rfl ?_
            refine lM_24 (v := (A 24 x31567.toNatClampNeg)) hk (vp_in_iff.mpr ⟨by omega, by omega⟩) rfl dX12_bestWindow_30 ?_
            refine g_aload_n hk dX12_bestWindow_31 rfl ?_
            refine gM_r0_48 hk hin12 (List.mem_cons_of_mem _ (List.mem_append_left _ (List.mem_of_getElem? (i := 0) rfl))) dX12_bestWindow_32 ?_
            refine g_iload_n hk dX12_bestWindow_35 rfl ?_
            refine lM_24 (v := (A 24 x31568.toNatClampNeg)) hk (vp_in_iff.mpr ⟨by omega, by omega⟩) rfl dX12_bestWindow_36 ?_
            have b31629l := Int32.le_toInt (A 24 x31568.toNatClampNeg)
            have b31629h := Int32.toInt_lt (A 24 x31568.toNatClampNeg)
            refine g_icmp_ge (tgt := 42) (a := (A 24 x31567.toNatClampNeg).toInt) (b := (A 24 x31568.toNatClampNeg).toInt) hk dX12_bestWindow_37 (by decide) rfl rfl (fun c31630 => ?_) (fun c31630 => ?_)
            · skip
              replace hF := FE.pos hF c31630
              obtain ⟨y31631, ey31631⟩ : ∃ y : Int32, y = x31567 + Int32.ofInt 1 := ⟨_, rfl⟩
              replace hF := FE.lt hF ey31631
              have hy31631 : y31631.toInt = x31567.toInt + 1 := i32_add ey31631 rfl (by decide) (by omega) (by omega)
              refine g_iinc (v := y31631) (lv' := [(2, .int y31631), (1, .int x31568), (0, .ref (r 0))]) hk 0 dX12_bestWindow_42 rfl ey31631.symm (by decide) rfl ?_
              refine g_goto (tgt := 5) hk dX12_bestWindow_45 (by decide) ?_
              exact g_lv (List.forall_mem_cons.mpr ⟨List.mem_of_getElem? (i := 0) rfl, (List.forall_mem_cons.mpr ⟨List.mem_of_getElem? (i := 1) rfl, (List.forall_mem_cons.mpr ⟨List.mem_of_getElem? (i := 2) rfl, (fun _ h => absurd h List.not_mem_nil)⟩)⟩)⟩) (ih31622 y31631 x31568 (by omega) (by omega) (by omega) (by omega) (by omega) (by omega) hF)
            · skip
              replace hF := FE.neg hF c31630
              refine g_iload_n hk dX12_bestWindow_40 rfl ?_
              refine g_istore_n (lv' := [(1, .int x31567), (2, .int x31567), (0, .ref (r 0))]) hk dX12_bestWindow_41 (by decide) rfl ?_
              obtain ⟨y31632, ey31632⟩ : ∃ y : Int32, y = x31567 + Int32.ofInt 1 := ⟨_, rfl⟩
              replace hF := FE.lt hF ey31632
              have hy31632 : y31632.toInt = x31567.toInt + 1 := i32_add ey31632 rfl (by decide) (by omega) (by omega)
              refine g_iinc (v := y31632) (lv' := [(2, .int y31632), (1, .int x31567), (0, .ref (r 0))]) hk 1 dX12_bestWindow_42 rfl ey31632.symm (by decide) rfl ?_
              refine g_goto (tgt := 5) hk dX12_bestWindow_45 (by decide) ?_
              exact g_lv (List.forall_mem_cons.mpr ⟨List.mem_of_getElem? (i := 0) rfl, (List.forall_mem_cons.mpr ⟨List.mem_of_getElem? (i := 1) rfl, (List.forall_mem_cons.mpr ⟨List.mem_of_getElem? (i := 2) rfl, (fun _ h => absurd h List.not_mem_nil)⟩)⟩)⟩) (ih31622 y31632 x31567 (by omega) (by omega) (by omega) (by omega) (by omega) (by omega) hF)
  have k31633 : (0 : Int32).toInt = 0 := rfl
  have k31634 : ((-2) : Int32).toInt = (-2) := rfl
  have b31636 := Int32.le_toInt (0 : Int32)
  have b31637 := Int32.toInt_lt (0 : Int32)
  have n31635a : 161 - (0 : Int32).toInt < (FU : Int) := by have := FU_eq; omega
  have n31635b : 0 < FU := by have := FU_eq; omega
  exact lp31618 FU 0 (-2) (by omega) (by omega) (by omega) (by omega) n31635a n31635b hF
noncomputable def fM12_best (I : Nat → Int32) (A : Nat → Nat → Int32) (L : Nat → Nat → Int64) (z1 : Int32) (z2 : Int32) : Int32 × (Nat → Int32) × (Nat → Nat → Int32) × (Nat → Nat → Int64) := if fM12_isQuery I A L z1 = 0 then ((-1), I, A, L) else if fM12_in I A L z2 0 1 = 0 then ((-1), I, A, L) else f_bdM (fM12_fillsFar I A L z1) fun _ I31565 A31565 L31565 => f_lt (fM12_bestWindow I31565 A31565 L31565) fun y31638 => if y31638.toInt < 0 then (y31638, I31565, A31565, L31565) else if z2.toInt ≠ 0 then ((A31565 24 y31638.toNatClampNeg), I31565, A31565, L31565) else (y31638, I31565, A31565, L31565)
def wo_j185_X12_best : List Cond := [Cond.methodLink RX12 251 yX12_isQuery, Cond.instanceMethod yX12_isQuery, Cond.selects RX12 yX12_isQuery yX12_isQuery, Cond.initialized RX12, Cond.methodLink RX12 244 yX12_in, Cond.static yX12_in, Cond.methodLink RX12 357 yX12_fillsFar, Cond.instanceMethod yX12_fillsFar, Cond.selects RX12 yX12_fillsFar yX12_fillsFar, Cond.methodLink RX12 360 yX12_bestWindow, Cond.instanceMethod yX12_bestWindow, Cond.selects RX12 yX12_bestWindow yX12_bestWindow, Cond.fieldLink RX12 91 "WarpDeskModel" "farBy" "[I"]
def wz_j185_X12_best : List Cond := .code yX12_best cX12_best 4 (some .int) :: (wo_j185_X12_best ++ (wsX120 ++ (wz_j147_X12_isQuery ++ (wz_j145_X12_in ++ (wz_j186_X12_fillsFar ++ (wz_j187_X12_bestWindow ++ ([] : List Cond)))))))
theorem zg_j185_X12_best : ∀ w ∈ wz_j185_X12_best, goodWord w = true := zg_cons rfl (zg_app (by decide +kernel) (zg_app zgU_wsX120 (zg_app zg_j147_X12_isQuery (zg_app zg_j145_X12_in (zg_app zg_j186_X12_fillsFar (zg_app zg_j187_X12_bestWindow zg_nil))))))
theorem zi_j185_X12_best : ∀ w ∈ wz_j185_X12_best, w ∈ lw_tbl := zi_cons zw_1843 (zi_app (zi_cons zw_1663 (zi_cons zw_1665 (zi_cons zw_67 (zi_cons zw_115 (zi_cons zw_1656 (zi_cons zw_1657 (zi_cons zw_1844 (zi_cons zw_1846 (zi_cons zw_93 (zi_cons zw_1848 (zi_cons zw_1850 (zi_cons zw_94 (zi_cons zw_1426 zi_nil))))))))))))) (zi_app inX12 (zi_app zi_j147_X12_isQuery (zi_app zi_j145_X12_in (zi_app zi_j186_X12_fillsFar (zi_app zi_j187_X12_bestWindow zi_nil))))))
set_option maxHeartbeats 4000000 in
set_option maxRecDepth 100000 in
theorem j185_X12_best (l : Launch) (D : va_G) (zt : Nat × Nat × Nat × (Nat → Nat) × (Nat → Nat)) (r : Nat → Nat) (g : Nat → ClassId) (I : Nat → Int32) (A : Nat → Nat → Int32) (L : Nat → Nat → Int64) (z1 : Int32) (z2 : Int32) (hIv : IvM I A) : GM l D zt (tyM g) yX12_best wz_j185_X12_best ({ frames := 7, cells := 0, slots := 0, locals := 156 } : Room) [.ref (r 0), .int z1, .int z2] (wM r g I A L) (fun v _ w' => ∃ (I' : Nat → Int32) (A' : Nat → Nat → Int32) (L' : Nat → Nat → Int64), Md [18, 19, 20] I I' ∧ Md [18, 19, 20, 21, 24] A A' ∧ IvM I' A' ∧ ∃ y0 : Int32, (L' = L) ∧ FE (fM12_best I A L z1 z2) (y0, I', A', L') ∧ v = some (.int y0) ∧ w' = wM r g I' A' L') 0 0 := by
  refine GM.of (cc := cX12_best) (maxL := 4) (ret := (some .int)) (own := RX12) (lv := [(0, .ref (r 0)), (1, .int z1), (2, .int z2)]) (by decide) rfl rfl (Nat.le_of_ble_eq_true rfl) rfl (fun κ sz hk hR hN => ?_)
  have hin12 : ∀ w ∈ u_ws RX12 TX12 55, w ∈ wz_j185_X12_best := fun w h => (List.mem_cons_of_mem _ (List.mem_append_right _ (List.mem_append_left _ h)))
  have hF : FE (fM12_best I A L z1 z2) (fM12_best I A L z1 z2) := FE.rf
  refine g_aload_n hk dX12_best_0 rfl ?_
  refine g_iload_n hk dX12_best_1 rfl ?_
  refine g_callV (n := 1) hk (j147_X12_isQuery l D zt r g I A L z1 hIv) (SP.same _) (fun _ h => h) (gi_V (List.mem_cons_of_mem _ (List.mem_append_left _ (List.mem_of_getElem? (i := 0) rfl))) (List.mem_cons_of_mem _ (List.mem_append_left _ (List.mem_of_getElem? (i := 1) rfl))) (List.mem_cons_of_mem _ (List.mem_append_left _ (List.mem_of_getElem? (i := 2) rfl))) (List.mem_cons_of_mem _ (List.mem_append_left _ (List.mem_of_getElem? (i := 3) rfl))) (gi_sub (fun w h => (List.mem_cons_of_mem _ (List.mem_append_right _ (List.mem_append_right _ (List.mem_append_left _ h))))) zg_j147_X12_isQuery)) rfl rfl rfl (by decide +kernel) ⟨Nat.le_of_ble_eq_true rfl, Nat.le_of_ble_eq_true rfl⟩ 0 rfl rfl rfl rfl (Nat.le_of_ble_eq_true rfl) ⟨Nat.le_of_ble_eq_true rfl, Nat.le_of_ble_eq_true rfl⟩ dX12_best_2 (fun v ty' w' hp hk' => ?_)
  rcases hp with ⟨hC, rfl, rfl⟩ | ⟨c31416, c31417, c31418, c31419, hC, rfl, rfl⟩
  · skip
    replace hF := FE.pos hF hC
    show GW κ 4 0 0 (wM r g I A L) 5 [(0, .ref (r 0)), (1, .int z1), (2, .int z2)] [.int 0]
    refine g_if_eq (tgt := 17) (a := 0) hk dX12_best_5 (by decide) rfl (fun _ => ?_) (fun z9 => absurd (show (0 : Int) = (0 : Int) from by decide) z9)
    refine g_iconst (v := (-1)) hk dX12_best_17 (by decide) ?_
    exact g_iret hk hR rfl ⟨I, A, L, (show Md [18, 19, 20] I I from Md.rf), (show Md [18, 19, 20, 21, 24] A A from Md.rf), hIv, (-1), (show L = L from rfl), hF, rfl, rfl⟩ dX12_best_18
  · skip
    replace hF := FE.neg hF (fe_ne hC (by decide))
    have f31421 : 0 ≤ (A 11 (5 * (I 15) + z1).toNatClampNeg).toInt ∧ (A 11 (5 * (I 15) + z1).toNatClampNeg).toInt ≤ 16 := IvM_a11 hIv _
    show GW κ 4 0 0 (wM r g I A L) 5 [(0, .ref (r 0)), (1, .int z1), (2, .int z2)] [.int 1]
    refine g_if_eq (tgt := 17) (a := 1) hk dX12_best_5 (by decide) rfl (fun z9 => absurd z9 (show ¬ ((1 : Int) = (0 : Int)) from by decide)) (fun _ => ?_)
    refine g_iload_n hk dX12_best_8 rfl ?_
    refine g_iconst (v := 0) hk dX12_best_9 (by decide) ?_
    refine g_iconst (v := 1) hk dX12_best_10 (by decide) ?_
    have k31422 : (0 : Int32).toInt = 0 := rfl
    have k31423 : (1 : Int32).toInt = 1 := rfl
    refine g_callS (n := 3) hk (j145_X12_in l D zt r g I A L z2 0 1 hIv) (SP.same _) (fun _ h => h) (gi_S (List.mem_cons_of_mem _ (List.mem_append_left _ (List.mem_of_getElem? (i := 4) rfl))) (List.mem_cons_of_mem _ (List.mem_append_left _ (List.mem_of_getElem? (i := 5) rfl))) (List.mem_cons_of_mem _ (List.mem_append_left _ (List.mem_of_getElem? (i := 3) rfl))) (gi_sub (fun w h => (List.mem_cons_of_mem _ (List.mem_append_right _ (List.mem_append_right _ (List.mem_append_right _ (List.mem_append_left _ h)))))) zg_j145_X12_in)) rfl rfl rfl (by decide +kernel) ⟨Nat.le_of_ble_eq_true rfl, Nat.le_of_ble_eq_true rfl⟩ rfl rfl (Nat.le_of_ble_eq_true rfl) ⟨Nat.le_of_ble_eq_true rfl, Nat.le_of_ble_eq_true rfl⟩ dX12_best_11 (fun v ty' w' hp hk' => ?_)
    rcases hp with ⟨c31424, hC, rfl, rfl⟩ | ⟨c31426, c31427, hC, rfl, rfl⟩
    · skip
      replace hF := FE.pos hF hC
      have b31429l := Int32.le_toInt z2
      have b31429h := Int32.toInt_lt z2
      show GW κ 4 0 0 (wM r g I A L) 14 [(0, .ref (r 0)), (1, .int z1), (2, .int z2)] [.int 0]
      refine g_if_ne (tgt := 19) (a := 0) hk dX12_best_14 (by decide) rfl (fun z9 => absurd z9 (show ¬ ((0 : Int) ≠ (0 : Int)) from by decide)) (fun _ => ?_)
      refine g_iconst (v := (-1)) hk dX12_best_17 (by decide) ?_
      exact g_iret hk hR rfl ⟨I, A, L, (show Md [18, 19, 20] I I from Md.rf), (show Md [18, 19, 20, 21, 24] A A from Md.rf), hIv, (-1), (show L = L from rfl), hF, rfl, rfl⟩ dX12_best_18
    · skip
      replace hF := FE.neg hF (fe_ne hC (by decide))
      show GW κ 4 0 0 (wM r g I A L) 14 [(0, .ref (r 0)), (1, .int z1), (2, .int z2)] [.int 1]
      refine g_if_ne (tgt := 19) (a := 1) hk dX12_best_14 (by decide) rfl (fun _ => ?_) (fun z9 => absurd (show (1 : Int) ≠ (0 : Int) from by decide) z9)
      refine g_aload_n hk dX12_best_19 rfl ?_
      refine g_iload_n hk dX12_best_20 rfl ?_
      refine g_callV (n := 1) hk (j186_X12_fillsFar l D zt r g I A L z1 hIv (by omega) (by omega)) (SP.same _) (fun _ h => h) (gi_V (List.mem_cons_of_mem _ (List.mem_append_left _ (List.mem_of_getElem? (i := 6) rfl))) (List.mem_cons_of_mem _ (List.mem_append_left _ (List.mem_of_getElem? (i := 7) rfl))) (List.mem_cons_of_mem _ (List.mem_append_left _ (List.mem_of_getElem? (i := 8) rfl))) (List.mem_cons_of_mem _ (List.mem_append_left _ (List.mem_of_getElem? (i := 3) rfl))) (gi_sub (fun w h => (List.mem_cons_of_mem _ (List.mem_append_right _ (List.mem_append_right _ (List.mem_append_right _ (List.mem_append_right _ (List.mem_append_left _ h))))))) zg_j186_X12_fillsFar)) rfl rfl rfl (by decide +kernel) ⟨Nat.le_of_ble_eq_true rfl, Nat.le_of_ble_eq_true rfl⟩ 0 rfl rfl rfl rfl (Nat.le_of_ble_eq_true rfl) ⟨Nat.le_of_ble_eq_true rfl, Nat.le_of_ble_eq_true rfl⟩ dX12_best_21 (fun v ty' w' hp hk' => ?_)
      obtain ⟨I31565, A31565, L31565, hI31565, hA31565, hV31565, r31566, hL31565, hC, rfl, rfl⟩ := hp
      replace hF := FE.bdM hF hC
      show GW κ 4 0 0 (wM r g I31565 A31565 L31565) 24 [(0, .ref (r 0)), (1, .int z1), (2, .int z2)] []
      refine g_aload_n hk dX12_best_24 rfl ?_
      refine g_callV (n := 0) hk (j187_X12_bestWindow l D zt r g I31565 A31565 L31565  hV31565) (SP.same _) (fun _ h => h) (gi_V (List.mem_cons_of_mem _ (List.mem_append_left _ (List.mem_of_getElem? (i := 9) rfl))) (List.mem_cons_of_mem _ (List.mem_append_left _ (List.mem_of_getElem? (i := 10) rfl))) (List.mem_cons_of_mem _ (List.mem_append_left _ (List.mem_of_getElem? (i := 11) rfl))) (List.mem_cons_of_mem _ (List.mem_append_left _ (List.mem_of_getElem? (i := 3) rfl))) (gi_sub (fun w h => (List.mem_cons_of_mem _ (List.mem_append_right _ (List.mem_append_right _ (List.mem_append_right _ (List.mem_append_right _ (List.mem_append_right _ (List.mem_append_left _ h)))))))) zg_j187_X12_bestWindow)) rfl rfl rfl (by decide +kernel) ⟨Nat.le_of_ble_eq_true rfl, Nat.le_of_ble_eq_true rfl⟩ 0 rfl rfl rfl rfl (Nat.le_of_ble_eq_true rfl) ⟨Nat.le_of_ble_eq_true rfl, Nat.le_of_ble_eq_true rfl⟩ dX12_best_25 (fun v ty' w' hp hk' => ?_)
      obtain ⟨y31638, c31639, c31640, hC, rfl, rfl⟩ := hp
      replace hF := FE.lt hF (fe_s hC)
      show GW κ 4 0 0 (wM r g I31565 A31565 L31565) 28 [(0, .ref (r 0)), (1, .int z1), (2, .int z2)] [.int y31638]
      refine g_istore_n (lv' := [(3, .int y31638), (0, .ref (r 0)), (1, .int z1), (2, .int z2)]) hk dX12_best_28 (by decide) rfl ?_
      refine g_iload_n hk dX12_best_29 rfl ?_
      refine g_if_lt (tgt := 37) (a := y31638.toInt) hk dX12_best_30 (by decide) rfl (fun c31641 => ?_) (fun c31641 => ?_)
      · skip
        replace hF := FE.pos hF c31641
        refine g_iload_n hk dX12_best_37 rfl ?_
        refine g_goto (tgt := 47) hk dX12_best_38 (by decide) ?_
        exact g_iret hk hR rfl ⟨I31565, A31565, L31565, (show Md [18, 19, 20] I I31565 from (Md.tr Md.rf hI31565 rfl)), (show Md [18, 19, 20, 21, 24] A A31565 from (Md.tr Md.rf hA31565 rfl)), hV31565, y31638, (show L31565 = L from hL31565), hF, rfl, rfl⟩ dX12_best_47
      · skip
        replace hF := FE.neg hF c31641
        refine g_iload_n hk dX12_best_33 rfl ?_
        refine g_if_ne (tgt := 41) (a := z2.toInt) hk dX12_best_34 (by decide) rfl (fun c31642 => ?_) (fun c31642 => ?_)
        · skip
          replace hF := FE.pos hF c31642
          refine g_aload_n hk dX12_best_41 rfl ?_
          refine gM_r0_48 hk hin12 (List.mem_cons_of_mem _ (List.mem_append_left _ (List.mem_of_getElem? (i := 12) rfl))) dX12_best_42 ?_
          refine g_iload_n hk dX12_best_45 rfl ?_
          refine lM_24 (v := (A31565 24 y31638.toNatClampNeg)) hk (vp_in_iff.mpr ⟨by omega, by omega⟩) rfl dX12_best_46 ?_
          have b31643l := Int32.le_toInt (A31565 24 y31638.toNatClampNeg)
          have b31643h := Int32.toInt_lt (A31565 24 y31638.toNatClampNeg)
          exact g_iret hk hR rfl ⟨I31565, A31565, L31565, (show Md [18, 19, 20] I I31565 from (Md.tr Md.rf hI31565 rfl)), (show Md [18, 19, 20, 21, 24] A A31565 from (Md.tr Md.rf hA31565 rfl)), hV31565, (A31565 24 y31638.toNatClampNeg), (show L31565 = L from hL31565), hF, rfl, rfl⟩ dX12_best_47
        · skip
          replace hF := FE.neg hF c31642
          refine g_iload_n hk dX12_best_37 rfl ?_
          refine g_goto (tgt := 47) hk dX12_best_38 (by decide) ?_
          exact g_iret hk hR rfl ⟨I31565, A31565, L31565, (show Md [18, 19, 20] I I31565 from (Md.tr Md.rf hI31565 rfl)), (show Md [18, 19, 20, 21, 24] A A31565 from (Md.tr Md.rf hA31565 rfl)), hV31565, y31638, (show L31565 = L from hL31565), hF, rfl, rfl⟩ dX12_best_47
