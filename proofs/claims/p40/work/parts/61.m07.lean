def wo_j201_X12_pair : List Cond := [Cond.methodLink RX12 244 yX12_in, Cond.static yX12_in, Cond.initialized RX12, Cond.methodLink RX12 323 yX12_copies, Cond.instanceMethod yX12_copies, Cond.selects RX12 yX12_copies yX12_copies, Cond.fieldLink RX12 70 "WarpDeskModel" "now" "[I", Cond.methodLink RX12 257 yX12_isWindow, Cond.instanceMethod yX12_isWindow, Cond.selects RX12 yX12_isWindow yX12_isWindow, Cond.methodLink RX12 384 yX12_laysWindows, Cond.instanceMethod yX12_laysWindows, Cond.selects RX12 yX12_laysWindows yX12_laysWindows, Cond.constant RX12 282 (2000000000), Cond.methodLink RX12 304 yX12_laysTable, Cond.instanceMethod yX12_laysTable, Cond.selects RX12 yX12_laysTable yX12_laysTable]
def wz_j201_X12_pair : List Cond := .code yX12_pair cX12_pair 9 (some .int) :: (wo_j201_X12_pair ++ (wsX120 ++ (wz_j145_X12_in ++ (wz_j151_X12_copies ++ (wz_j160_X12_isWindow ++ (wz_j200_X12_laysWindows ++ (wz_j173_X12_laysTable ++ ([] : List Cond))))))))
theorem zg_j201_X12_pair : ∀ w ∈ wz_j201_X12_pair, goodWord w = true := zg_cons rfl (zg_app (by decide +kernel) (zg_app zgU_wsX120 (zg_app zg_j145_X12_in (zg_app zg_j151_X12_copies (zg_app zg_j160_X12_isWindow (zg_app zg_j200_X12_laysWindows (zg_app zg_j173_X12_laysTable zg_nil)))))))
theorem zi_j201_X12_pair : ∀ w ∈ wz_j201_X12_pair, w ∈ lw_tbl := zi_cons zw_1930 (zi_app (zi_cons zw_1656 (zi_cons zw_1657 (zi_cons zw_115 (zi_cons zw_1679 (zi_cons zw_1681 (zi_cons zw_70 (zi_cons zw_1413 (zi_cons zw_1714 (zi_cons zw_1716 (zi_cons zw_72 (zi_cons zw_1923 (zi_cons zw_1925 (zi_cons zw_100 (zi_cons zw_1775 (zi_cons zw_1776 (zi_cons zw_1778 (zi_cons zw_83 zi_nil))))))))))))))))) (zi_app inX12 (zi_app zi_j145_X12_in (zi_app zi_j151_X12_copies (zi_app zi_j160_X12_isWindow (zi_app zi_j200_X12_laysWindows (zi_app zi_j173_X12_laysTable zi_nil)))))))
set_option maxHeartbeats 4000000 in
set_option maxRecDepth 100000 in
theorem j201_X12_pair (l : Launch) (D : va_G) (zt : Nat × Nat × Nat × (Nat → Nat) × (Nat → Nat)) (r : Nat → Nat) (g : Nat → ClassId) (I : Nat → Int32) (A : Nat → Nat → Int32) (L : Nat → Nat → Int64) (z1 : Int32) (z2 : Int32) (hIv : IvM I A) : GM l D zt (tyM g) yX12_pair wz_j201_X12_pair ({ frames := 5, cells := 0, slots := 0, locals := 112 } : Room) [.ref (r 0), .int z1, .int z2] (wM r g I A L) (fun v _ w' => ∃ (I' : Nat → Int32) (A' : Nat → Nat → Int32) (L' : Nat → Nat → Int64), Md [18, 19, 20] I I' ∧ Md [18, 19, 20, 21] A A' ∧ IvM I' A' ∧ ∃ y0 : Int32, v = some (.int y0) ∧ w' = wM r g I' A' L') 0 0 := by
  refine GM.of (cc := cX12_pair) (maxL := 9) (ret := (some .int)) (own := RX12) (lv := [(0, .ref (r 0)), (1, .int z1), (2, .int z2)]) (by decide) rfl rfl (Nat.le_of_ble_eq_true rfl) rfl (fun κ sz hk hR hN => ?_)
  have hin12 : ∀ w ∈ u_ws RX12 TX12 55, w ∈ wz_j201_X12_pair := fun w h => (List.mem_cons_of_mem _ (List.mem_append_right _ (List.mem_append_left _ h)))
  refine g_iload_n hk dX12_pair_0 rfl ?_
  refine g_iconst (v := 2) hk dX12_pair_1 (by decide) ?_
  refine g_bipush (v := 16) hk dX12_pair_2 (by decide) ?_
  have k22633 : (2 : Int32).toInt = 2 := rfl
  have k22634 : (16 : Int32).toInt = 16 := rfl
  refine g_callS (n := 3) hk (j145_X12_in l D zt r g I A L z1 2 16 hIv) (SP.same _) (fun _ h => h) (gi_S (List.mem_cons_of_mem _ (List.mem_append_left _ (List.mem_of_getElem? (i := 0) rfl))) (List.mem_cons_of_mem _ (List.mem_append_left _ (List.mem_of_getElem? (i := 1) rfl))) (List.mem_cons_of_mem _ (List.mem_append_left _ (List.mem_of_getElem? (i := 2) rfl))) (gi_sub (fun w h => (List.mem_cons_of_mem _ (List.mem_append_right _ (List.mem_append_right _ (List.mem_append_left _ h))))) zg_j145_X12_in)) rfl rfl rfl (by decide +kernel) ⟨Nat.le_of_ble_eq_true rfl, Nat.le_of_ble_eq_true rfl⟩ rfl rfl (Nat.le_of_ble_eq_true rfl) ⟨Nat.le_of_ble_eq_true rfl, Nat.le_of_ble_eq_true rfl⟩ dX12_pair_4 (fun v ty' w' hp hk' => ?_)
  rcases hp with ⟨c22635, rfl, rfl⟩ | ⟨c22637, c22638, rfl, rfl⟩
  · skip
    have b22640l := Int32.le_toInt z1
    have b22640h := Int32.toInt_lt z1
    show GW κ 9 0 0 (wM r g I A L) 7 [(0, .ref (r 0)), (1, .int z1), (2, .int z2)] [.int 0]
    refine g_if_eq (tgt := 19) (a := 0) hk dX12_pair_7 (by decide) rfl (fun _ => ?_) (fun z9 => absurd (show (0 : Int) = (0 : Int) from by decide) z9)
    refine g_iconst (v := (-1)) hk dX12_pair_19 (by decide) ?_
    exact g_iret hk hR rfl ⟨I, A, L, (show Md [18, 19, 20] I I from Md.rf), (show Md [18, 19, 20, 21] A A from Md.rf), hIv, (-1), rfl, rfl⟩ dX12_pair_20
  · skip
    show GW κ 9 0 0 (wM r g I A L) 7 [(0, .ref (r 0)), (1, .int z1), (2, .int z2)] [.int 1]
    refine g_if_eq (tgt := 19) (a := 1) hk dX12_pair_7 (by decide) rfl (fun z9 => absurd z9 (show ¬ ((1 : Int) = (0 : Int)) from by decide)) (fun _ => ?_)
    refine g_iload_n hk dX12_pair_10 rfl ?_
    refine g_iconst (v := 0) hk dX12_pair_11 (by decide) ?_
    refine g_iconst (v := 2) hk dX12_pair_12 (by decide) ?_
    have k22641 : (0 : Int32).toInt = 0 := rfl
    refine g_callS (n := 3) hk (j145_X12_in l D zt r g I A L z2 0 2 hIv) (SP.same _) (fun _ h => h) (gi_S (List.mem_cons_of_mem _ (List.mem_append_left _ (List.mem_of_getElem? (i := 0) rfl))) (List.mem_cons_of_mem _ (List.mem_append_left _ (List.mem_of_getElem? (i := 1) rfl))) (List.mem_cons_of_mem _ (List.mem_append_left _ (List.mem_of_getElem? (i := 2) rfl))) (gi_sub (fun w h => (List.mem_cons_of_mem _ (List.mem_append_right _ (List.mem_append_right _ (List.mem_append_left _ h))))) zg_j145_X12_in)) rfl rfl rfl (by decide +kernel) ⟨Nat.le_of_ble_eq_true rfl, Nat.le_of_ble_eq_true rfl⟩ rfl rfl (Nat.le_of_ble_eq_true rfl) ⟨Nat.le_of_ble_eq_true rfl, Nat.le_of_ble_eq_true rfl⟩ dX12_pair_13 (fun v ty' w' hp hk' => ?_)
    rcases hp with ⟨c22642, rfl, rfl⟩ | ⟨c22644, c22645, rfl, rfl⟩
    · skip
      have b22647l := Int32.le_toInt z2
      have b22647h := Int32.toInt_lt z2
      show GW κ 9 0 0 (wM r g I A L) 16 [(0, .ref (r 0)), (1, .int z1), (2, .int z2)] [.int 0]
      refine g_if_ne (tgt := 21) (a := 0) hk dX12_pair_16 (by decide) rfl (fun z9 => absurd z9 (show ¬ ((0 : Int) ≠ (0 : Int)) from by decide)) (fun _ => ?_)
      refine g_iconst (v := (-1)) hk dX12_pair_19 (by decide) ?_
      exact g_iret hk hR rfl ⟨I, A, L, (show Md [18, 19, 20] I I from Md.rf), (show Md [18, 19, 20, 21] A A from Md.rf), hIv, (-1), rfl, rfl⟩ dX12_pair_20
    · skip
      show GW κ 9 0 0 (wM r g I A L) 16 [(0, .ref (r 0)), (1, .int z1), (2, .int z2)] [.int 1]
      refine g_if_ne (tgt := 21) (a := 1) hk dX12_pair_16 (by decide) rfl (fun _ => ?_) (fun z9 => absurd (show (1 : Int) ≠ (0 : Int) from by decide) z9)
      refine g_aload_n hk dX12_pair_21 rfl ?_
      refine g_callV (n := 0) hk (j151_X12_copies l D zt r g I A L  hIv) (SP.same _) (fun _ h => h) (gi_V (List.mem_cons_of_mem _ (List.mem_append_left _ (List.mem_of_getElem? (i := 3) rfl))) (List.mem_cons_of_mem _ (List.mem_append_left _ (List.mem_of_getElem? (i := 4) rfl))) (List.mem_cons_of_mem _ (List.mem_append_left _ (List.mem_of_getElem? (i := 5) rfl))) (List.mem_cons_of_mem _ (List.mem_append_left _ (List.mem_of_getElem? (i := 2) rfl))) (gi_sub (fun w h => (List.mem_cons_of_mem _ (List.mem_append_right _ (List.mem_append_right _ (List.mem_append_right _ (List.mem_append_left _ h)))))) zg_j151_X12_copies)) rfl rfl rfl (by decide +kernel) ⟨Nat.le_of_ble_eq_true rfl, Nat.le_of_ble_eq_true rfl⟩ 0 rfl rfl rfl rfl (Nat.le_of_ble_eq_true rfl) ⟨Nat.le_of_ble_eq_true rfl, Nat.le_of_ble_eq_true rfl⟩ dX12_pair_22 (fun v ty' w' hp hk' => ?_)
      obtain ⟨I22649, A22649, L22649, hI22649, hA22649, hV22649, r22650, r22651, rfl, rfl⟩ := hp
      have f22652 := IvM_s17_0 hIv
      have f22653 := IvM_s17_164 hIv
      show GW κ 9 0 0 (wM r g I22649 A22649 L22649) 25 [(0, .ref (r 0)), (1, .int z1), (2, .int z2)] []
      refine g_bipush (v := (-2)) hk dX12_pair_25 (by decide) ?_
      refine g_istore_n (lv' := [(3, .int (-2)), (0, .ref (r 0)), (1, .int z1), (2, .int z2)]) hk dX12_pair_27 (by decide) rfl ?_
      refine g_bipush (v := (-2)) hk dX12_pair_28 (by decide) ?_
      refine g_istore (lv' := [(4, .int (-2)), (3, .int (-2)), (0, .ref (r 0)), (1, .int z1), (2, .int z2)]) hk dX12_pair_30 (by decide) rfl ?_
      refine g_bipush (v := (-2)) hk dX12_pair_32 (by decide) ?_
      refine g_istore (lv' := [(5, .int (-2)), (4, .int (-2)), (3, .int (-2)), (0, .ref (r 0)), (1, .int z1), (2, .int z2)]) hk dX12_pair_34 (by decide) rfl ?_
      refine g_iconst (v := 0) hk dX12_pair_36 (by decide) ?_
      refine g_istore (lv' := [(6, .int 0), (5, .int (-2)), (4, .int (-2)), (3, .int (-2)), (0, .ref (r 0)), (1, .int z1), (2, .int z2)]) hk dX12_pair_37 (by decide) rfl ?_
      have lp23365 : ∀ (n23366 : Nat) (x22654 : Int32) (x22655 : Int32) (x22656 : Int32) (x22657 : Int32) (I22661 : Nat → Int32) (A22661 : Nat → Nat → Int32) (L22661 : Nat → Nat → Int64), (Md [18, 19, 20] I22649 I22661) → (Md [19, 20, 21] A22649 A22661) → (IvM I22661 A22661) → (0 ≤ x22654.toInt) → (x22654.toInt ≤ 160) → ((-2) ≤ x22656.toInt) → (x22656.toInt ≤ 159) → ((-2) ≤ x22657.toInt) → (x22657.toInt ≤ 159) → (161 - x22654.toInt < (n23366 : Int)) → (0 < n23366) → GW κ 9 0 0 (wM r g I22661 A22661 L22661) 39 [(6, .int x22654), (5, .int x22655), (4, .int x22656), (3, .int x22657), (0, .ref (r 0)), (1, .int z1), (2, .int z2)] [] := by
        intro n23366
        induction n23366 with
        | zero =>
          intro x22654 x22655 x22656 x22657 I22661 A22661 L22661 hI22661 hA22661 hV22661 h23359 h23360 h23361 h23362 h23363 h23364 m23367 m23367z
          exact absurd m23367z (Nat.lt_irrefl 0)
        | succ n23366 ih23368 =>
          intro x22654 x22655 x22656 x22657 I22661 A22661 L22661 hI22661 hA22661 hV22661 h23359 h23360 h23361 h23362 h23363 h23364 m23367 m23367z
          refine g_iload hk dX12_pair_39 rfl ?_
          refine g_aload_n hk dX12_pair_41 rfl ?_
          refine gM_r0_35 hk hin12 (List.mem_cons_of_mem _ (List.mem_append_left _ (List.mem_of_getElem? (i := 6) rfl))) dX12_pair_42 ?_
          refine g_iconst (v := 0) hk dX12_pair_45 (by decide) ?_
          refine lM_17 (v := (A 17 0)) hk (vp_in_iff.mpr ⟨by decide, by decide⟩) ((congrFun (hA22661 17 rfl) _).trans (congrFun (hA22649 17 rfl) _)) dX12_pair_46 ?_
          refine g_icmp_ge (tgt := 148) (a := x22654.toInt) (b := (A 17 0).toInt) hk dX12_pair_47 (by decide) rfl rfl (fun c23369 => ?_) (fun c23369 => ?_)
          · skip
            refine g_iload_n hk dX12_pair_148 rfl ?_
            refine g_if_ne (tgt := 156) (a := z2.toInt) hk dX12_pair_149 (by decide) rfl (fun c23370 => ?_) (fun c23370 => ?_)
            · skip
              refine g_iload_n hk dX12_pair_156 rfl ?_
              refine g_iconst (v := 1) hk dX12_pair_157 (by decide) ?_
              refine g_icmp_ne (tgt := 166) (a := z2.toInt) (b := 1) hk dX12_pair_158 (by decide) rfl rfl (fun c23371 => ?_) (fun c23371 => ?_)
              · skip
                refine g_iload hk dX12_pair_166 rfl ?_
                have b23372l := Int32.le_toInt x22655
                have b23372h := Int32.toInt_lt x22655
                exact g_iret hk hR rfl ⟨I22661, A22661, L22661, (show Md [18, 19, 20] I I22661 from (Md.tr (Md.tr Md.rf hI22649 rfl) hI22661 rfl)), (show Md [18, 19, 20, 21] A A22661 from (Md.tr (Md.tr Md.rf hA22649 rfl) hA22661 rfl)), hV22661, x22655, rfl, rfl⟩ dX12_pair_168
              · skip
                refine g_iload hk dX12_pair_161 rfl ?_
                refine g_goto (tgt := 168) hk dX12_pair_163 (by decide) ?_
                exact g_iret hk hR rfl ⟨I22661, A22661, L22661, (show Md [18, 19, 20] I I22661 from (Md.tr (Md.tr Md.rf hI22649 rfl) hI22661 rfl)), (show Md [18, 19, 20, 21] A A22661 from (Md.tr (Md.tr Md.rf hA22649 rfl) hA22661 rfl)), hV22661, x22656, rfl, rfl⟩ dX12_pair_168
            · skip
              refine g_iload_n hk dX12_pair_152 rfl ?_
              refine g_goto (tgt := 168) hk dX12_pair_153 (by decide) ?_
              exact g_iret hk hR rfl ⟨I22661, A22661, L22661, (show Md [18, 19, 20] I I22661 from (Md.tr (Md.tr Md.rf hI22649 rfl) hI22661 rfl)), (show Md [18, 19, 20, 21] A A22661 from (Md.tr (Md.tr Md.rf hA22649 rfl) hA22661 rfl)), hV22661, x22657, rfl, rfl⟩ dX12_pair_168
          · skip
            refine g_aload_n hk dX12_pair_50 rfl ?_
            refine g_iload hk dX12_pair_51 rfl ?_
            refine g_iload_n hk dX12_pair_53 rfl ?_
            refine g_callV (n := 2) hk (j160_X12_isWindow l D zt r g I22661 A22661 L22661 x22654 z1 hV22661) (SP.same _) (fun _ h => h) (gi_V (List.mem_cons_of_mem _ (List.mem_append_left _ (List.mem_of_getElem? (i := 7) rfl))) (List.mem_cons_of_mem _ (List.mem_append_left _ (List.mem_of_getElem? (i := 8) rfl))) (List.mem_cons_of_mem _ (List.mem_append_left _ (List.mem_of_getElem? (i := 9) rfl))) (List.mem_cons_of_mem _ (List.mem_append_left _ (List.mem_of_getElem? (i := 2) rfl))) (gi_sub (fun w h => (List.mem_cons_of_mem _ (List.mem_append_right _ (List.mem_append_right _ (List.mem_append_right _ (List.mem_append_right _ (List.mem_append_left _ h))))))) zg_j160_X12_isWindow)) rfl rfl rfl (by decide +kernel) ⟨Nat.le_of_ble_eq_true rfl, Nat.le_of_ble_eq_true rfl⟩ 0 rfl rfl rfl rfl (Nat.le_of_ble_eq_true rfl) ⟨Nat.le_of_ble_eq_true rfl, Nat.le_of_ble_eq_true rfl⟩ dX12_pair_54 (fun v ty' w' hp hk' => ?_)
            rcases hp with ⟨rfl, rfl⟩ | ⟨c23374, c23375, c23376, c23377, c23378, c23379, c23380, rfl, rfl⟩
            · skip
              show GW κ 9 0 0 (wM r g I22661 A22661 L22661) 57 [(6, .int x22654), (5, .int x22655), (4, .int x22656), (3, .int x22657), (0, .ref (r 0)), (1, .int z1), (2, .int z2)] [.int 0]
              refine g_if_ne (tgt := 63) (a := 0) hk dX12_pair_57 (by decide) rfl (fun z9 => absurd z9 (show ¬ ((0 : Int) ≠ (0 : Int)) from by decide)) (fun _ => ?_)
              refine g_goto (tgt := 142) hk dX12_pair_60 (by decide) ?_
              obtain ⟨y23382, ey23382⟩ : ∃ y : Int32, y = x22654 + Int32.ofInt 1 := ⟨_, rfl⟩
              have hy23382 : y23382.toInt = x22654.toInt + 1 := i32_add ey23382 rfl (by decide) (by omega) (by omega)
              refine g_iinc (v := y23382) (lv' := [(6, .int y23382), (5, .int x22655), (4, .int x22656), (3, .int x22657), (0, .ref (r 0)), (1, .int z1), (2, .int z2)]) hk 0 dX12_pair_142 rfl ey23382.symm (by decide) rfl ?_
              refine g_goto (tgt := 39) hk dX12_pair_145 (by decide) ?_
              have b23383l := Int32.le_toInt x22655
              have b23383h := Int32.toInt_lt x22655
              exact g_lv (List.forall_mem_cons.mpr ⟨List.mem_of_getElem? (i := 0) rfl, (List.forall_mem_cons.mpr ⟨List.mem_of_getElem? (i := 1) rfl, (List.forall_mem_cons.mpr ⟨List.mem_of_getElem? (i := 2) rfl, (List.forall_mem_cons.mpr ⟨List.mem_of_getElem? (i := 3) rfl, (List.forall_mem_cons.mpr ⟨List.mem_of_getElem? (i := 4) rfl, (List.forall_mem_cons.mpr ⟨List.mem_of_getElem? (i := 5) rfl, (List.forall_mem_cons.mpr ⟨List.mem_of_getElem? (i := 6) rfl, (fun _ h => absurd h List.not_mem_nil)⟩)⟩)⟩)⟩)⟩)⟩)⟩) (ih23368 y23382 x22655 x22656 x22657 I22661 A22661 L22661 (show Md [18, 19, 20] I22649 I22661 from Md.tr hI22661 (show Md [18, 19, 20] I22661 I22661 from Md.rf) rfl) (show Md [19, 20, 21] A22649 A22661 from Md.tr hA22661 (show Md [19, 20, 21] A22661 A22661 from Md.rf) rfl) hV22661 (by omega) (by omega) (by omega) (by omega) (by omega) (by omega) (by omega) (by omega))
            · skip
              show GW κ 9 0 0 (wM r g I22661 A22661 L22661) 57 [(6, .int x22654), (5, .int x22655), (4, .int x22656), (3, .int x22657), (0, .ref (r 0)), (1, .int z1), (2, .int z2)] [.int 1]
              refine g_if_ne (tgt := 63) (a := 1) hk dX12_pair_57 (by decide) rfl (fun _ => ?_) (fun z9 => absurd (show (1 : Int) ≠ (0 : Int) from by decide) z9)
              refine g_iload hk dX12_pair_63 rfl ?_
              refine g_iload_n hk dX12_pair_65 rfl ?_
              refine g_iadd hk dX12_pair_66 ?_
              refine g_topi (fun y23384 ey23384 => ?_)
              have hy23384 : y23384.toInt = x22654.toInt + z1.toInt := i32_add ey23384 rfl rfl (by omega) (by omega)
              refine g_istore (lv' := [(7, .int y23384), (6, .int x22654), (5, .int x22655), (4, .int x22656), (3, .int x22657), (0, .ref (r 0)), (1, .int z1), (2, .int z2)]) hk dX12_pair_67 (by decide) rfl ?_
              have lp23454 : ∀ (n23455 : Nat) (x23385 : Int32) (x23387 : Int32) (x23388 : Int32) (x23389 : Int32) (I23393 : Nat → Int32) (A23393 : Nat → Nat → Int32) (L23393 : Nat → Nat → Int64), (Md [18, 19, 20] I22661 I23393) → (Md [19, 20, 21] A22661 A23393) → (IvM I23393 A23393) → (2 ≤ x23385.toInt) → (x23385.toInt ≤ 175) → ((-2) ≤ x23388.toInt) → (x23388.toInt ≤ 159) → ((-2) ≤ x23389.toInt) → (x23389.toInt ≤ 159) → (161 - x23385.toInt < (n23455 : Int)) → (0 < n23455) → GW κ 9 0 0 (wM r g I23393 A23393 L23393) 69 [(7, .int x23385), (6, .int x22654), (5, .int x23387), (4, .int x23388), (3, .int x23389), (0, .ref (r 0)), (1, .int z1), (2, .int z2)] [] := by
                intro n23455
                induction n23455 with
                | zero =>
                  intro x23385 x23387 x23388 x23389 I23393 A23393 L23393 hI23393 hA23393 hV23393 h23448 h23449 h23450 h23451 h23452 h23453 m23456 m23456z
                  exact absurd m23456z (Nat.lt_irrefl 0)
                | succ n23455 ih23457 =>
                  intro x23385 x23387 x23388 x23389 I23393 A23393 L23393 hI23393 hA23393 hV23393 h23448 h23449 h23450 h23451 h23452 h23453 m23456 m23456z
                  refine g_iload hk dX12_pair_69 rfl ?_
                  refine g_aload_n hk dX12_pair_71 rfl ?_
                  refine gM_r0_35 hk hin12 (List.mem_cons_of_mem _ (List.mem_append_left _ (List.mem_of_getElem? (i := 6) rfl))) dX12_pair_72 ?_
                  refine g_iconst (v := 0) hk dX12_pair_75 (by decide) ?_
                  refine lM_17 (v := (A 17 0)) hk (vp_in_iff.mpr ⟨by decide, by decide⟩) ((congrFun (hA23393 17 rfl) _).trans ((congrFun (hA22661 17 rfl) _).trans (congrFun (hA22649 17 rfl) _))) dX12_pair_76 ?_
                  refine g_icmp_ge (tgt := 142) (a := x23385.toInt) (b := (A 17 0).toInt) hk dX12_pair_77 (by decide) rfl rfl (fun c23458 => ?_) (fun c23458 => ?_)
                  · skip
                    obtain ⟨y23459, ey23459⟩ : ∃ y : Int32, y = x22654 + Int32.ofInt 1 := ⟨_, rfl⟩
                    have hy23459 : y23459.toInt = x22654.toInt + 1 := i32_add ey23459 rfl (by decide) (by omega) (by omega)
                    refine g_iinc (v := y23459) (lv' := [(6, .int y23459), (7, .int x23385), (5, .int x23387), (4, .int x23388), (3, .int x23389), (0, .ref (r 0)), (1, .int z1), (2, .int z2)]) hk 1 dX12_pair_142 rfl ey23459.symm (by decide) rfl ?_
                    refine g_goto (tgt := 39) hk dX12_pair_145 (by decide) ?_
                    have b23460l := Int32.le_toInt x23387
                    have b23460h := Int32.toInt_lt x23387
                    exact g_lv (List.forall_mem_cons.mpr ⟨List.mem_of_getElem? (i := 0) rfl, (List.forall_mem_cons.mpr ⟨List.mem_of_getElem? (i := 2) rfl, (List.forall_mem_cons.mpr ⟨List.mem_of_getElem? (i := 3) rfl, (List.forall_mem_cons.mpr ⟨List.mem_of_getElem? (i := 4) rfl, (List.forall_mem_cons.mpr ⟨List.mem_of_getElem? (i := 5) rfl, (List.forall_mem_cons.mpr ⟨List.mem_of_getElem? (i := 6) rfl, (List.forall_mem_cons.mpr ⟨List.mem_of_getElem? (i := 7) rfl, (fun _ h => absurd h List.not_mem_nil)⟩)⟩)⟩)⟩)⟩)⟩)⟩) (ih23368 y23459 x23387 x23388 x23389 I23393 A23393 L23393 (show Md [18, 19, 20] I22649 I23393 from Md.tr hI22661 (show Md [18, 19, 20] I22661 I23393 from (Md.tr Md.rf hI23393 rfl)) rfl) (show Md [19, 20, 21] A22649 A23393 from Md.tr hA22661 (show Md [19, 20, 21] A22661 A23393 from (Md.tr Md.rf hA23393 rfl)) rfl) hV23393 (by omega) (by omega) (by omega) (by omega) (by omega) (by omega) (by omega) (by omega))
                  · skip
                    refine g_aload_n hk dX12_pair_80 rfl ?_
                    refine g_iload hk dX12_pair_81 rfl ?_
                    refine g_iload_n hk dX12_pair_83 rfl ?_
                    refine g_callV (n := 2) hk (j160_X12_isWindow l D zt r g I23393 A23393 L23393 x23385 z1 hV23393) (SP.same _) (fun _ h => h) (gi_V (List.mem_cons_of_mem _ (List.mem_append_left _ (List.mem_of_getElem? (i := 7) rfl))) (List.mem_cons_of_mem _ (List.mem_append_left _ (List.mem_of_getElem? (i := 8) rfl))) (List.mem_cons_of_mem _ (List.mem_append_left _ (List.mem_of_getElem? (i := 9) rfl))) (List.mem_cons_of_mem _ (List.mem_append_left _ (List.mem_of_getElem? (i := 2) rfl))) (gi_sub (fun w h => (List.mem_cons_of_mem _ (List.mem_append_right _ (List.mem_append_right _ (List.mem_append_right _ (List.mem_append_right _ (List.mem_append_left _ h))))))) zg_j160_X12_isWindow)) rfl rfl rfl (by decide +kernel) ⟨Nat.le_of_ble_eq_true rfl, Nat.le_of_ble_eq_true rfl⟩ 0 rfl rfl rfl rfl (Nat.le_of_ble_eq_true rfl) ⟨Nat.le_of_ble_eq_true rfl, Nat.le_of_ble_eq_true rfl⟩ dX12_pair_84 (fun v ty' w' hp hk' => ?_)
                    rcases hp with ⟨rfl, rfl⟩ | ⟨c23462, c23463, c23464, c23465, c23466, c23467, c23468, rfl, rfl⟩
                    · skip
                      show GW κ 9 0 0 (wM r g I23393 A23393 L23393) 87 [(7, .int x23385), (6, .int x22654), (5, .int x23387), (4, .int x23388), (3, .int x23389), (0, .ref (r 0)), (1, .int z1), (2, .int z2)] [.int 0]
                      refine g_if_ne (tgt := 93) (a := 0) hk dX12_pair_87 (by decide) rfl (fun z9 => absurd z9 (show ¬ ((0 : Int) ≠ (0 : Int)) from by decide)) (fun _ => ?_)
                      refine g_goto (tgt := 136) hk dX12_pair_90 (by decide) ?_
                      obtain ⟨y23470, ey23470⟩ : ∃ y : Int32, y = x23385 + Int32.ofInt 1 := ⟨_, rfl⟩
                      have hy23470 : y23470.toInt = x23385.toInt + 1 := i32_add ey23470 rfl (by decide) (by omega) (by omega)
                      refine g_iinc (v := y23470) (lv' := [(7, .int y23470), (6, .int x22654), (5, .int x23387), (4, .int x23388), (3, .int x23389), (0, .ref (r 0)), (1, .int z1), (2, .int z2)]) hk 0 dX12_pair_136 rfl ey23470.symm (by decide) rfl ?_
                      refine g_goto (tgt := 69) hk dX12_pair_139 (by decide) ?_
                      have b23471l := Int32.le_toInt x23387
                      have b23471h := Int32.toInt_lt x23387
                      exact g_lv (List.forall_mem_cons.mpr ⟨List.mem_of_getElem? (i := 0) rfl, (List.forall_mem_cons.mpr ⟨List.mem_of_getElem? (i := 1) rfl, (List.forall_mem_cons.mpr ⟨List.mem_of_getElem? (i := 2) rfl, (List.forall_mem_cons.mpr ⟨List.mem_of_getElem? (i := 3) rfl, (List.forall_mem_cons.mpr ⟨List.mem_of_getElem? (i := 4) rfl, (List.forall_mem_cons.mpr ⟨List.mem_of_getElem? (i := 5) rfl, (List.forall_mem_cons.mpr ⟨List.mem_of_getElem? (i := 6) rfl, (List.forall_mem_cons.mpr ⟨List.mem_of_getElem? (i := 7) rfl, (fun _ h => absurd h List.not_mem_nil)⟩)⟩)⟩)⟩)⟩)⟩)⟩)⟩) (ih23457 y23470 x23387 x23388 x23389 I23393 A23393 L23393 (show Md [18, 19, 20] I22661 I23393 from Md.tr hI23393 (show Md [18, 19, 20] I23393 I23393 from Md.rf) rfl) (show Md [19, 20, 21] A22661 A23393 from Md.tr hA23393 (show Md [19, 20, 21] A23393 A23393 from Md.rf) rfl) hV23393 (by omega) (by omega) (by omega) (by omega) (by omega) (by omega) (by omega) (by omega))
                    · skip
                      show GW κ 9 0 0 (wM r g I23393 A23393 L23393) 87 [(7, .int x23385), (6, .int x22654), (5, .int x23387), (4, .int x23388), (3, .int x23389), (0, .ref (r 0)), (1, .int z1), (2, .int z2)] [.int 1]
                      refine g_if_ne (tgt := 93) (a := 1) hk dX12_pair_87 (by decide) rfl (fun _ => ?_) (fun z9 => absurd (show (1 : Int) ≠ (0 : Int) from by decide) z9)
                      refine g_aload_n hk dX12_pair_93 rfl ?_
                      refine g_iload hk dX12_pair_94 rfl ?_
                      refine g_iload hk dX12_pair_96 rfl ?_
                      refine g_iload_n hk dX12_pair_98 rfl ?_
                      refine g_callV (n := 3) hk (j200_X12_laysWindows l D zt r g I23393 A23393 L23393 x22654 x23385 z1 hV23393 (by omega) (by omega) (by omega) (by omega) (by omega) (by omega) (by omega) (by omega)) (SP.same _) (fun _ h => h) (gi_V (List.mem_cons_of_mem _ (List.mem_append_left _ (List.mem_of_getElem? (i := 10) rfl))) (List.mem_cons_of_mem _ (List.mem_append_left _ (List.mem_of_getElem? (i := 11) rfl))) (List.mem_cons_of_mem _ (List.mem_append_left _ (List.mem_of_getElem? (i := 12) rfl))) (List.mem_cons_of_mem _ (List.mem_append_left _ (List.mem_of_getElem? (i := 2) rfl))) (gi_sub (fun w h => (List.mem_cons_of_mem _ (List.mem_append_right _ (List.mem_append_right _ (List.mem_append_right _ (List.mem_append_right _ (List.mem_append_right _ (List.mem_append_left _ h)))))))) zg_j200_X12_laysWindows)) rfl rfl rfl (by decide +kernel) ⟨Nat.le_of_ble_eq_true rfl, Nat.le_of_ble_eq_true rfl⟩ 0 rfl rfl rfl rfl (Nat.le_of_ble_eq_true rfl) ⟨Nat.le_of_ble_eq_true rfl, Nat.le_of_ble_eq_true rfl⟩ dX12_pair_99 (fun v ty' w' hp hk' => ?_)
                      obtain ⟨I23473, A23473, L23473, hI23473, hA23473, hV23473, r23474, rfl, rfl⟩ := hp
                      have f23475 := IvM_f18 hV23473
                      show GW κ 9 0 0 (wM r g I23473 A23473 L23473) 102 [(7, .int x23385), (6, .int x22654), (5, .int x23387), (4, .int x23388), (3, .int x23389), (0, .ref (r 0)), (1, .int z1), (2, .int z2)] []
                      refine g_aload_n hk dX12_pair_102 rfl ?_
                      refine g_ldcw (v := 2000000000) hk (List.mem_cons_of_mem _ (List.mem_append_left _ (List.mem_of_getElem? (i := 13) rfl))) dX12_pair_103 ?_
                      have k23476 : (2000000000 : Int32).toInt = 2000000000 := rfl
                      refine g_callV (n := 1) hk (j173_X12_laysTable l D zt r g I23473 A23473 L23473 2000000000 hV23473) (SP.same _) (fun _ h => h) (gi_V (List.mem_cons_of_mem _ (List.mem_append_left _ (List.mem_of_getElem? (i := 14) rfl))) (List.mem_cons_of_mem _ (List.mem_append_left _ (List.mem_of_getElem? (i := 15) rfl))) (List.mem_cons_of_mem _ (List.mem_append_left _ (List.mem_of_getElem? (i := 16) rfl))) (List.mem_cons_of_mem _ (List.mem_append_left _ (List.mem_of_getElem? (i := 2) rfl))) (gi_sub (fun w h => (List.mem_cons_of_mem _ (List.mem_append_right _ (List.mem_append_right _ (List.mem_append_right _ (List.mem_append_right _ (List.mem_append_right _ (List.mem_append_right _ (List.mem_append_left _ h))))))))) zg_j173_X12_laysTable)) rfl rfl rfl (by decide +kernel) ⟨Nat.le_of_ble_eq_true rfl, Nat.le_of_ble_eq_true rfl⟩ 0 rfl rfl rfl rfl (Nat.le_of_ble_eq_true rfl) ⟨Nat.le_of_ble_eq_true rfl, Nat.le_of_ble_eq_true rfl⟩ dX12_pair_106 (fun v ty' w' hp hk' => ?_)
                      obtain ⟨I23478, A23478, L23478, hI23478, hA23478, hV23478, y23477, rfl, rfl⟩ := hp
                      show GW κ 9 0 0 (wM r g I23478 A23478 L23478) 109 [(7, .int x23385), (6, .int x22654), (5, .int x23387), (4, .int x23388), (3, .int x23389), (0, .ref (r 0)), (1, .int z1), (2, .int z2)] [.int y23477]
                      refine g_istore (lv' := [(8, .int y23477), (7, .int x23385), (6, .int x22654), (5, .int x23387), (4, .int x23388), (3, .int x23389), (0, .ref (r 0)), (1, .int z1), (2, .int z2)]) hk dX12_pair_109 (by decide) rfl ?_
                      refine g_iload_n hk dX12_pair_111 rfl ?_
                      refine g_if_lt (tgt := 125) (a := x23389.toInt) hk dX12_pair_112 (by decide) rfl (fun c23479 => ?_) (fun c23479 => ?_)
                      · skip
                        refine g_iload hk dX12_pair_125 rfl ?_
                        refine g_istore_n (lv' := [(3, .int x22654), (8, .int y23477), (7, .int x23385), (6, .int x22654), (5, .int x23387), (4, .int x23388), (0, .ref (r 0)), (1, .int z1), (2, .int z2)]) hk dX12_pair_127 (by decide) rfl ?_
                        refine g_iload hk dX12_pair_128 rfl ?_
                        refine g_istore (lv' := [(4, .int x23385), (3, .int x22654), (8, .int y23477), (7, .int x23385), (6, .int x22654), (5, .int x23387), (0, .ref (r 0)), (1, .int z1), (2, .int z2)]) hk dX12_pair_130 (by decide) rfl ?_
                        refine g_iload hk dX12_pair_132 rfl ?_
                        refine g_istore (lv' := [(5, .int y23477), (4, .int x23385), (3, .int x22654), (8, .int y23477), (7, .int x23385), (6, .int x22654), (0, .ref (r 0)), (1, .int z1), (2, .int z2)]) hk dX12_pair_134 (by decide) rfl ?_
                        obtain ⟨y23480, ey23480⟩ : ∃ y : Int32, y = x23385 + Int32.ofInt 1 := ⟨_, rfl⟩
                        have hy23480 : y23480.toInt = x23385.toInt + 1 := i32_add ey23480 rfl (by decide) (by omega) (by omega)
                        refine g_iinc (v := y23480) (lv' := [(7, .int y23480), (5, .int y23477), (4, .int x23385), (3, .int x22654), (8, .int y23477), (6, .int x22654), (0, .ref (r 0)), (1, .int z1), (2, .int z2)]) hk 4 dX12_pair_136 rfl ey23480.symm (by decide) rfl ?_
                        refine g_goto (tgt := 69) hk dX12_pair_139 (by decide) ?_
                        have b23481l := Int32.le_toInt y23477
                        have b23481h := Int32.toInt_lt y23477
                        exact g_lv (List.forall_mem_cons.mpr ⟨List.mem_of_getElem? (i := 0) rfl, (List.forall_mem_cons.mpr ⟨List.mem_of_getElem? (i := 5) rfl, (List.forall_mem_cons.mpr ⟨List.mem_of_getElem? (i := 1) rfl, (List.forall_mem_cons.mpr ⟨List.mem_of_getElem? (i := 2) rfl, (List.forall_mem_cons.mpr ⟨List.mem_of_getElem? (i := 3) rfl, (List.forall_mem_cons.mpr ⟨List.mem_of_getElem? (i := 6) rfl, (List.forall_mem_cons.mpr ⟨List.mem_of_getElem? (i := 7) rfl, (List.forall_mem_cons.mpr ⟨List.mem_of_getElem? (i := 8) rfl, (fun _ h => absurd h List.not_mem_nil)⟩)⟩)⟩)⟩)⟩)⟩)⟩)⟩) (ih23457 y23480 y23477 x23385 x22654 I23478 A23478 L23478 (show Md [18, 19, 20] I22661 I23478 from Md.tr hI23393 (show Md [18, 19, 20] I23393 I23478 from (Md.tr (Md.tr Md.rf hI23473 rfl) hI23478 rfl)) rfl) (show Md [19, 20, 21] A22661 A23478 from Md.tr hA23393 (show Md [19, 20, 21] A23393 A23478 from (Md.tr (Md.tr Md.rf hA23473 rfl) hA23478 rfl)) rfl) hV23478 (by omega) (by omega) (by omega) (by omega) (by omega) (by omega) (by omega) (by omega))
                      · skip
                        refine g_iload hk dX12_pair_115 rfl ?_
                        refine g_iload hk dX12_pair_117 rfl ?_
                        have b23482l := Int32.le_toInt y23477
                        have b23482h := Int32.toInt_lt y23477
                        have b23483l := Int32.le_toInt x23387
                        have b23483h := Int32.toInt_lt x23387
                        refine g_icmp_lt (tgt := 125) (a := y23477.toInt) (b := x23387.toInt) hk dX12_pair_119 (by decide) rfl rfl (fun c23484 => ?_) (fun c23484 => ?_)
                        · skip
                          refine g_iload hk dX12_pair_125 rfl ?_
                          refine g_istore_n (lv' := [(3, .int x22654), (8, .int y23477), (7, .int x23385), (6, .int x22654), (5, .int x23387), (4, .int x23388), (0, .ref (r 0)), (1, .int z1), (2, .int z2)]) hk dX12_pair_127 (by decide) rfl ?_
                          refine g_iload hk dX12_pair_128 rfl ?_
                          refine g_istore (lv' := [(4, .int x23385), (3, .int x22654), (8, .int y23477), (7, .int x23385), (6, .int x22654), (5, .int x23387), (0, .ref (r 0)), (1, .int z1), (2, .int z2)]) hk dX12_pair_130 (by decide) rfl ?_
                          refine g_iload hk dX12_pair_132 rfl ?_
                          refine g_istore (lv' := [(5, .int y23477), (4, .int x23385), (3, .int x22654), (8, .int y23477), (7, .int x23385), (6, .int x22654), (0, .ref (r 0)), (1, .int z1), (2, .int z2)]) hk dX12_pair_134 (by decide) rfl ?_
                          obtain ⟨y23485, ey23485⟩ : ∃ y : Int32, y = x23385 + Int32.ofInt 1 := ⟨_, rfl⟩
                          have hy23485 : y23485.toInt = x23385.toInt + 1 := i32_add ey23485 rfl (by decide) (by omega) (by omega)
                          refine g_iinc (v := y23485) (lv' := [(7, .int y23485), (5, .int y23477), (4, .int x23385), (3, .int x22654), (8, .int y23477), (6, .int x22654), (0, .ref (r 0)), (1, .int z1), (2, .int z2)]) hk 4 dX12_pair_136 rfl ey23485.symm (by decide) rfl ?_
                          refine g_goto (tgt := 69) hk dX12_pair_139 (by decide) ?_
                          exact g_lv (List.forall_mem_cons.mpr ⟨List.mem_of_getElem? (i := 0) rfl, (List.forall_mem_cons.mpr ⟨List.mem_of_getElem? (i := 5) rfl, (List.forall_mem_cons.mpr ⟨List.mem_of_getElem? (i := 1) rfl, (List.forall_mem_cons.mpr ⟨List.mem_of_getElem? (i := 2) rfl, (List.forall_mem_cons.mpr ⟨List.mem_of_getElem? (i := 3) rfl, (List.forall_mem_cons.mpr ⟨List.mem_of_getElem? (i := 6) rfl, (List.forall_mem_cons.mpr ⟨List.mem_of_getElem? (i := 7) rfl, (List.forall_mem_cons.mpr ⟨List.mem_of_getElem? (i := 8) rfl, (fun _ h => absurd h List.not_mem_nil)⟩)⟩)⟩)⟩)⟩)⟩)⟩)⟩) (ih23457 y23485 y23477 x23385 x22654 I23478 A23478 L23478 (show Md [18, 19, 20] I22661 I23478 from Md.tr hI23393 (show Md [18, 19, 20] I23393 I23478 from (Md.tr (Md.tr Md.rf hI23473 rfl) hI23478 rfl)) rfl) (show Md [19, 20, 21] A22661 A23478 from Md.tr hA23393 (show Md [19, 20, 21] A23393 A23478 from (Md.tr (Md.tr Md.rf hA23473 rfl) hA23478 rfl)) rfl) hV23478 (by omega) (by omega) (by omega) (by omega) (by omega) (by omega) (by omega) (by omega))
                        · skip
                          refine g_goto (tgt := 136) hk dX12_pair_122 (by decide) ?_
                          obtain ⟨y23486, ey23486⟩ : ∃ y : Int32, y = x23385 + Int32.ofInt 1 := ⟨_, rfl⟩
                          have hy23486 : y23486.toInt = x23385.toInt + 1 := i32_add ey23486 rfl (by decide) (by omega) (by omega)
                          refine g_iinc (v := y23486) (lv' := [(7, .int y23486), (8, .int y23477), (6, .int x22654), (5, .int x23387), (4, .int x23388), (3, .int x23389), (0, .ref (r 0)), (1, .int z1), (2, .int z2)]) hk 1 dX12_pair_136 rfl ey23486.symm (by decide) rfl ?_
                          refine g_goto (tgt := 69) hk dX12_pair_139 (by decide) ?_
                          exact g_lv (List.forall_mem_cons.mpr ⟨List.mem_of_getElem? (i := 0) rfl, (List.forall_mem_cons.mpr ⟨List.mem_of_getElem? (i := 2) rfl, (List.forall_mem_cons.mpr ⟨List.mem_of_getElem? (i := 3) rfl, (List.forall_mem_cons.mpr ⟨List.mem_of_getElem? (i := 4) rfl, (List.forall_mem_cons.mpr ⟨List.mem_of_getElem? (i := 5) rfl, (List.forall_mem_cons.mpr ⟨List.mem_of_getElem? (i := 6) rfl, (List.forall_mem_cons.mpr ⟨List.mem_of_getElem? (i := 7) rfl, (List.forall_mem_cons.mpr ⟨List.mem_of_getElem? (i := 8) rfl, (fun _ h => absurd h List.not_mem_nil)⟩)⟩)⟩)⟩)⟩)⟩)⟩)⟩) (ih23457 y23486 x23387 x23388 x23389 I23478 A23478 L23478 (show Md [18, 19, 20] I22661 I23478 from Md.tr hI23393 (show Md [18, 19, 20] I23393 I23478 from (Md.tr (Md.tr Md.rf hI23473 rfl) hI23478 rfl)) rfl) (show Md [19, 20, 21] A22661 A23478 from Md.tr hA23393 (show Md [19, 20, 21] A23393 A23478 from (Md.tr (Md.tr Md.rf hA23473 rfl) hA23478 rfl)) rfl) hV23478 (by omega) (by omega) (by omega) (by omega) (by omega) (by omega) (by omega) (by omega))
              have b23487l := Int32.le_toInt x22655
              have b23487h := Int32.toInt_lt x22655
              obtain ⟨n23488, n23488a, n23488b⟩ : ∃ n : Nat, 161 - y23384.toInt < (n : Int) ∧ 0 < n := ⟨((161 - y23384.toInt : Int)).toNat + 1, by omega, by omega⟩
              exact lp23454 n23488 y23384 x22655 x22656 x22657 I22661 A22661 L22661 Md.rf Md.rf hV22661 (by omega) (by omega) (by omega) (by omega) (by omega) (by omega) n23488a n23488b
      have k23489 : ((-2) : Int32).toInt = (-2) := rfl
      obtain ⟨n23490, n23490a, n23490b⟩ : ∃ n : Nat, 161 - (0 : Int32).toInt < (n : Int) ∧ 0 < n := ⟨((161 - (0 : Int32).toInt : Int)).toNat + 1, by omega, by omega⟩
      exact lp23365 n23490 0 (-2) (-2) (-2) I22649 A22649 L22649 Md.rf Md.rf hV22649 (by omega) (by omega) (by omega) (by omega) (by omega) (by omega) n23490a n23490b
def wo_j202_X12_odd : List Cond := [Cond.methodLink RX12 244 yX12_in, Cond.static yX12_in, Cond.initialized RX12, Cond.methodLink RX12 323 yX12_copies, Cond.instanceMethod yX12_copies, Cond.selects RX12 yX12_copies yX12_copies, Cond.fieldLink RX12 70 "WarpDeskModel" "now" "[I", Cond.methodLink RX12 257 yX12_isWindow, Cond.instanceMethod yX12_isWindow, Cond.selects RX12 yX12_isWindow yX12_isWindow, Cond.methodLink RX12 388 yX12_nearOf, Cond.instanceMethod yX12_nearOf, Cond.selects RX12 yX12_nearOf yX12_nearOf, Cond.fieldLink RX12 381 "WarpDeskModel" "nearFar" "I"]
def wz_j202_X12_odd : List Cond := .code yX12_odd cX12_odd 6 (some .int) :: (wo_j202_X12_odd ++ (wsX120 ++ (wz_j145_X12_in ++ (wz_j151_X12_copies ++ (wz_j160_X12_isWindow ++ (wz_j199_X12_nearOf ++ ([] : List Cond)))))))
theorem zg_j202_X12_odd : ∀ w ∈ wz_j202_X12_odd, goodWord w = true := zg_cons rfl (zg_app (by decide +kernel) (zg_app zgU_wsX120 (zg_app zg_j145_X12_in (zg_app zg_j151_X12_copies (zg_app zg_j160_X12_isWindow (zg_app zg_j199_X12_nearOf zg_nil))))))
theorem zi_j202_X12_odd : ∀ w ∈ wz_j202_X12_odd, w ∈ lw_tbl := zi_cons zw_1934 (zi_app (zi_cons zw_1656 (zi_cons zw_1657 (zi_cons zw_115 (zi_cons zw_1679 (zi_cons zw_1681 (zi_cons zw_70 (zi_cons zw_1413 (zi_cons zw_1714 (zi_cons zw_1716 (zi_cons zw_72 (zi_cons zw_1919 (zi_cons zw_1921 (zi_cons zw_99 (zi_cons zw_1430 zi_nil)))))))))))))) (zi_app inX12 (zi_app zi_j145_X12_in (zi_app zi_j151_X12_copies (zi_app zi_j160_X12_isWindow (zi_app zi_j199_X12_nearOf zi_nil))))))
set_option maxHeartbeats 4000000 in
set_option maxRecDepth 100000 in
theorem j202_X12_odd (l : Launch) (D : va_G) (zt : Nat × Nat × Nat × (Nat → Nat) × (Nat → Nat)) (r : Nat → Nat) (g : Nat → ClassId) (I : Nat → Int32) (A : Nat → Nat → Int32) (L : Nat → Nat → Int64) (z1 : Int32) (z2 : Int32) (hIv : IvM I A) : GM l D zt (tyM g) yX12_odd wz_j202_X12_odd ({ frames := 6, cells := 0, slots := 0, locals := 137 } : Room) [.ref (r 0), .int z1, .int z2] (wM r g I A L) (fun v _ w' => ∃ (I' : Nat → Int32) (A' : Nat → Nat → Int32) (L' : Nat → Nat → Int64), Md [18, 19, 20, 25] I I' ∧ Md [18, 19, 20, 21] A A' ∧ IvM I' A' ∧ ∃ y0 : Int32, ((-2) ≤ y0.toInt) ∧ v = some (.int y0) ∧ w' = wM r g I' A' L') 0 0 := by
  refine GM.of (cc := cX12_odd) (maxL := 6) (ret := (some .int)) (own := RX12) (lv := [(0, .ref (r 0)), (1, .int z1), (2, .int z2)]) (by decide) rfl rfl (Nat.le_of_ble_eq_true rfl) rfl (fun κ sz hk hR hN => ?_)
  have hin12 : ∀ w ∈ u_ws RX12 TX12 55, w ∈ wz_j202_X12_odd := fun w h => (List.mem_cons_of_mem _ (List.mem_append_right _ (List.mem_append_left _ h)))
  refine g_iload_n hk dX12_odd_0 rfl ?_
  refine g_iconst (v := 2) hk dX12_odd_1 (by decide) ?_
  refine g_bipush (v := 16) hk dX12_odd_2 (by decide) ?_
  have k23491 : (2 : Int32).toInt = 2 := rfl
  have k23492 : (16 : Int32).toInt = 16 := rfl
  refine g_callS (n := 3) hk (j145_X12_in l D zt r g I A L z1 2 16 hIv) (SP.same _) (fun _ h => h) (gi_S (List.mem_cons_of_mem _ (List.mem_append_left _ (List.mem_of_getElem? (i := 0) rfl))) (List.mem_cons_of_mem _ (List.mem_append_left _ (List.mem_of_getElem? (i := 1) rfl))) (List.mem_cons_of_mem _ (List.mem_append_left _ (List.mem_of_getElem? (i := 2) rfl))) (gi_sub (fun w h => (List.mem_cons_of_mem _ (List.mem_append_right _ (List.mem_append_right _ (List.mem_append_left _ h))))) zg_j145_X12_in)) rfl rfl rfl (by decide +kernel) ⟨Nat.le_of_ble_eq_true rfl, Nat.le_of_ble_eq_true rfl⟩ rfl rfl (Nat.le_of_ble_eq_true rfl) ⟨Nat.le_of_ble_eq_true rfl, Nat.le_of_ble_eq_true rfl⟩ dX12_odd_4 (fun v ty' w' hp hk' => ?_)
  rcases hp with ⟨c23493, rfl, rfl⟩ | ⟨c23495, c23496, rfl, rfl⟩
  · skip
    have b23498l := Int32.le_toInt z1
    have b23498h := Int32.toInt_lt z1
    show GW κ 6 0 0 (wM r g I A L) 7 [(0, .ref (r 0)), (1, .int z1), (2, .int z2)] [.int 0]
    refine g_if_eq (tgt := 19) (a := 0) hk dX12_odd_7 (by decide) rfl (fun _ => ?_) (fun z9 => absurd (show (0 : Int) = (0 : Int) from by decide) z9)
    refine g_iconst (v := (-1)) hk dX12_odd_19 (by decide) ?_
    exact g_iret hk hR rfl ⟨I, A, L, (show Md [18, 19, 20, 25] I I from Md.rf), (show Md [18, 19, 20, 21] A A from Md.rf), hIv, (-1), (by decide), rfl, rfl⟩ dX12_odd_20
  · skip
    show GW κ 6 0 0 (wM r g I A L) 7 [(0, .ref (r 0)), (1, .int z1), (2, .int z2)] [.int 1]
    refine g_if_eq (tgt := 19) (a := 1) hk dX12_odd_7 (by decide) rfl (fun z9 => absurd z9 (show ¬ ((1 : Int) = (0 : Int)) from by decide)) (fun _ => ?_)
    refine g_iload_n hk dX12_odd_10 rfl ?_
    refine g_iconst (v := 0) hk dX12_odd_11 (by decide) ?_
    refine g_iconst (v := 1) hk dX12_odd_12 (by decide) ?_
    have k23499 : (0 : Int32).toInt = 0 := rfl
    have k23500 : (1 : Int32).toInt = 1 := rfl
    refine g_callS (n := 3) hk (j145_X12_in l D zt r g I A L z2 0 1 hIv) (SP.same _) (fun _ h => h) (gi_S (List.mem_cons_of_mem _ (List.mem_append_left _ (List.mem_of_getElem? (i := 0) rfl))) (List.mem_cons_of_mem _ (List.mem_append_left _ (List.mem_of_getElem? (i := 1) rfl))) (List.mem_cons_of_mem _ (List.mem_append_left _ (List.mem_of_getElem? (i := 2) rfl))) (gi_sub (fun w h => (List.mem_cons_of_mem _ (List.mem_append_right _ (List.mem_append_right _ (List.mem_append_left _ h))))) zg_j145_X12_in)) rfl rfl rfl (by decide +kernel) ⟨Nat.le_of_ble_eq_true rfl, Nat.le_of_ble_eq_true rfl⟩ rfl rfl (Nat.le_of_ble_eq_true rfl) ⟨Nat.le_of_ble_eq_true rfl, Nat.le_of_ble_eq_true rfl⟩ dX12_odd_13 (fun v ty' w' hp hk' => ?_)
    rcases hp with ⟨c23501, rfl, rfl⟩ | ⟨c23503, c23504, rfl, rfl⟩
    · skip
      have b23506l := Int32.le_toInt z2
      have b23506h := Int32.toInt_lt z2
      show GW κ 6 0 0 (wM r g I A L) 16 [(0, .ref (r 0)), (1, .int z1), (2, .int z2)] [.int 0]
      refine g_if_ne (tgt := 21) (a := 0) hk dX12_odd_16 (by decide) rfl (fun z9 => absurd z9 (show ¬ ((0 : Int) ≠ (0 : Int)) from by decide)) (fun _ => ?_)
      refine g_iconst (v := (-1)) hk dX12_odd_19 (by decide) ?_
      exact g_iret hk hR rfl ⟨I, A, L, (show Md [18, 19, 20, 25] I I from Md.rf), (show Md [18, 19, 20, 21] A A from Md.rf), hIv, (-1), (by decide), rfl, rfl⟩ dX12_odd_20
    · skip
      show GW κ 6 0 0 (wM r g I A L) 16 [(0, .ref (r 0)), (1, .int z1), (2, .int z2)] [.int 1]
      refine g_if_ne (tgt := 21) (a := 1) hk dX12_odd_16 (by decide) rfl (fun _ => ?_) (fun z9 => absurd (show (1 : Int) ≠ (0 : Int) from by decide) z9)
      refine g_aload_n hk dX12_odd_21 rfl ?_
      refine g_callV (n := 0) hk (j151_X12_copies l D zt r g I A L  hIv) (SP.same _) (fun _ h => h) (gi_V (List.mem_cons_of_mem _ (List.mem_append_left _ (List.mem_of_getElem? (i := 3) rfl))) (List.mem_cons_of_mem _ (List.mem_append_left _ (List.mem_of_getElem? (i := 4) rfl))) (List.mem_cons_of_mem _ (List.mem_append_left _ (List.mem_of_getElem? (i := 5) rfl))) (List.mem_cons_of_mem _ (List.mem_append_left _ (List.mem_of_getElem? (i := 2) rfl))) (gi_sub (fun w h => (List.mem_cons_of_mem _ (List.mem_append_right _ (List.mem_append_right _ (List.mem_append_right _ (List.mem_append_left _ h)))))) zg_j151_X12_copies)) rfl rfl rfl (by decide +kernel) ⟨Nat.le_of_ble_eq_true rfl, Nat.le_of_ble_eq_true rfl⟩ 0 rfl rfl rfl rfl (Nat.le_of_ble_eq_true rfl) ⟨Nat.le_of_ble_eq_true rfl, Nat.le_of_ble_eq_true rfl⟩ dX12_odd_22 (fun v ty' w' hp hk' => ?_)
      obtain ⟨I23508, A23508, L23508, hI23508, hA23508, hV23508, r23509, r23510, rfl, rfl⟩ := hp
      have f23511 := IvM_s17_0 hIv
      have f23512 := IvM_s17_164 hIv
      show GW κ 6 0 0 (wM r g I23508 A23508 L23508) 25 [(0, .ref (r 0)), (1, .int z1), (2, .int z2)] []
      refine g_bipush (v := (-2)) hk dX12_odd_25 (by decide) ?_
      refine g_istore_n (lv' := [(3, .int (-2)), (0, .ref (r 0)), (1, .int z1), (2, .int z2)]) hk dX12_odd_27 (by decide) rfl ?_
      refine g_bipush (v := (-2)) hk dX12_odd_28 (by decide) ?_
      refine g_istore (lv' := [(4, .int (-2)), (3, .int (-2)), (0, .ref (r 0)), (1, .int z1), (2, .int z2)]) hk dX12_odd_30 (by decide) rfl ?_
      refine g_iconst (v := 0) hk dX12_odd_32 (by decide) ?_
      refine g_istore (lv' := [(5, .int 0), (4, .int (-2)), (3, .int (-2)), (0, .ref (r 0)), (1, .int z1), (2, .int z2)]) hk dX12_odd_33 (by decide) rfl ?_
      have lp23637 : ∀ (n23638 : Nat) (x23513 : Int32) (x23514 : Int32) (x23515 : Int32) (I23519 : Nat → Int32) (A23519 : Nat → Nat → Int32) (L23519 : Nat → Nat → Int64), (Md [18, 19, 20, 25] I23508 I23519) → (Md [19, 20, 21] A23508 A23519) → (IvM I23519 A23519) → (0 ≤ x23513.toInt) → (x23513.toInt ≤ 160) → ((-2) ≤ x23514.toInt) → ((-2) ≤ x23515.toInt) → (x23515.toInt ≤ 159) → (161 - x23513.toInt < (n23638 : Int)) → (0 < n23638) → GW κ 6 0 0 (wM r g I23519 A23519 L23519) 35 [(5, .int x23513), (4, .int x23514), (3, .int x23515), (0, .ref (r 0)), (1, .int z1), (2, .int z2)] [] := by
        intro n23638
        induction n23638 with
        | zero =>
          intro x23513 x23514 x23515 I23519 A23519 L23519 hI23519 hA23519 hV23519 h23632 h23633 h23634 h23635 h23636 m23639 m23639z
          exact absurd m23639z (Nat.lt_irrefl 0)
        | succ n23638 ih23640 =>
          intro x23513 x23514 x23515 I23519 A23519 L23519 hI23519 hA23519 hV23519 h23632 h23633 h23634 h23635 h23636 m23639 m23639z
          refine g_iload hk dX12_odd_35 rfl ?_
          refine g_aload_n hk dX12_odd_37 rfl ?_
          refine gM_r0_35 hk hin12 (List.mem_cons_of_mem _ (List.mem_append_left _ (List.mem_of_getElem? (i := 6) rfl))) dX12_odd_38 ?_
          refine g_iconst (v := 0) hk dX12_odd_41 (by decide) ?_
          refine lM_17 (v := (A 17 0)) hk (vp_in_iff.mpr ⟨by decide, by decide⟩) ((congrFun (hA23519 17 rfl) _).trans (congrFun (hA23508 17 rfl) _)) dX12_odd_42 ?_
          refine g_icmp_ge (tgt := 93) (a := x23513.toInt) (b := (A 17 0).toInt) hk dX12_odd_43 (by decide) rfl rfl (fun c23641 => ?_) (fun c23641 => ?_)
          · skip
            refine g_iload_n hk dX12_odd_93 rfl ?_
            refine g_if_ne (tgt := 101) (a := z2.toInt) hk dX12_odd_94 (by decide) rfl (fun c23642 => ?_) (fun c23642 => ?_)
            · skip
              refine g_iload hk dX12_odd_101 rfl ?_
              have b23643l := Int32.le_toInt x23514
              have b23643h := Int32.toInt_lt x23514
              exact g_iret hk hR rfl ⟨I23519, A23519, L23519, (show Md [18, 19, 20, 25] I I23519 from (Md.tr (Md.tr Md.rf hI23508 rfl) hI23519 rfl)), (show Md [18, 19, 20, 21] A A23519 from (Md.tr (Md.tr Md.rf hA23508 rfl) hA23519 rfl)), hV23519, x23514, (by omega), rfl, rfl⟩ dX12_odd_103
            · skip
              refine g_iload_n hk dX12_odd_97 rfl ?_
              refine g_goto (tgt := 103) hk dX12_odd_98 (by decide) ?_
              exact g_iret hk hR rfl ⟨I23519, A23519, L23519, (show Md [18, 19, 20, 25] I I23519 from (Md.tr (Md.tr Md.rf hI23508 rfl) hI23519 rfl)), (show Md [18, 19, 20, 21] A A23519 from (Md.tr (Md.tr Md.rf hA23508 rfl) hA23519 rfl)), hV23519, x23515, (by omega), rfl, rfl⟩ dX12_odd_103
          · skip
            refine g_aload_n hk dX12_odd_46 rfl ?_
            refine g_iload hk dX12_odd_47 rfl ?_
            refine g_iload_n hk dX12_odd_49 rfl ?_
            refine g_callV (n := 2) hk (j160_X12_isWindow l D zt r g I23519 A23519 L23519 x23513 z1 hV23519) (SP.same _) (fun _ h => h) (gi_V (List.mem_cons_of_mem _ (List.mem_append_left _ (List.mem_of_getElem? (i := 7) rfl))) (List.mem_cons_of_mem _ (List.mem_append_left _ (List.mem_of_getElem? (i := 8) rfl))) (List.mem_cons_of_mem _ (List.mem_append_left _ (List.mem_of_getElem? (i := 9) rfl))) (List.mem_cons_of_mem _ (List.mem_append_left _ (List.mem_of_getElem? (i := 2) rfl))) (gi_sub (fun w h => (List.mem_cons_of_mem _ (List.mem_append_right _ (List.mem_append_right _ (List.mem_append_right _ (List.mem_append_right _ (List.mem_append_left _ h))))))) zg_j160_X12_isWindow)) rfl rfl rfl (by decide +kernel) ⟨Nat.le_of_ble_eq_true rfl, Nat.le_of_ble_eq_true rfl⟩ 0 rfl rfl rfl rfl (Nat.le_of_ble_eq_true rfl) ⟨Nat.le_of_ble_eq_true rfl, Nat.le_of_ble_eq_true rfl⟩ dX12_odd_50 (fun v ty' w' hp hk' => ?_)
            rcases hp with ⟨rfl, rfl⟩ | ⟨c23645, c23646, c23647, c23648, c23649, c23650, c23651, rfl, rfl⟩
            · skip
              show GW κ 6 0 0 (wM r g I23519 A23519 L23519) 53 [(5, .int x23513), (4, .int x23514), (3, .int x23515), (0, .ref (r 0)), (1, .int z1), (2, .int z2)] [.int 0]
              refine g_if_eq (tgt := 87) (a := 0) hk dX12_odd_53 (by decide) rfl (fun _ => ?_) (fun z9 => absurd (show (0 : Int) = (0 : Int) from by decide) z9)
              obtain ⟨y23653, ey23653⟩ : ∃ y : Int32, y = x23513 + Int32.ofInt 1 := ⟨_, rfl⟩
              have hy23653 : y23653.toInt = x23513.toInt + 1 := i32_add ey23653 rfl (by decide) (by omega) (by omega)
              refine g_iinc (v := y23653) (lv' := [(5, .int y23653), (4, .int x23514), (3, .int x23515), (0, .ref (r 0)), (1, .int z1), (2, .int z2)]) hk 0 dX12_odd_87 rfl ey23653.symm (by decide) rfl ?_
              refine g_goto (tgt := 35) hk dX12_odd_90 (by decide) ?_
              have b23654l := Int32.le_toInt x23514
              have b23654h := Int32.toInt_lt x23514
              exact g_lv (List.forall_mem_cons.mpr ⟨List.mem_of_getElem? (i := 0) rfl, (List.forall_mem_cons.mpr ⟨List.mem_of_getElem? (i := 1) rfl, (List.forall_mem_cons.mpr ⟨List.mem_of_getElem? (i := 2) rfl, (List.forall_mem_cons.mpr ⟨List.mem_of_getElem? (i := 3) rfl, (List.forall_mem_cons.mpr ⟨List.mem_of_getElem? (i := 4) rfl, (List.forall_mem_cons.mpr ⟨List.mem_of_getElem? (i := 5) rfl, (fun _ h => absurd h List.not_mem_nil)⟩)⟩)⟩)⟩)⟩)⟩) (ih23640 y23653 x23514 x23515 I23519 A23519 L23519 (show Md [18, 19, 20, 25] I23508 I23519 from Md.tr hI23519 (show Md [18, 19, 20, 25] I23519 I23519 from Md.rf) rfl) (show Md [19, 20, 21] A23508 A23519 from Md.tr hA23519 (show Md [19, 20, 21] A23519 A23519 from Md.rf) rfl) hV23519 (by omega) (by omega) (by omega) (by omega) (by omega) (by omega) (by omega))
            · skip
              show GW κ 6 0 0 (wM r g I23519 A23519 L23519) 53 [(5, .int x23513), (4, .int x23514), (3, .int x23515), (0, .ref (r 0)), (1, .int z1), (2, .int z2)] [.int 1]
              refine g_if_eq (tgt := 87) (a := 1) hk dX12_odd_53 (by decide) rfl (fun z9 => absurd z9 (show ¬ ((1 : Int) = (0 : Int)) from by decide)) (fun _ => ?_)
              refine g_aload_n hk dX12_odd_56 rfl ?_
              refine g_iload hk dX12_odd_57 rfl ?_
              refine g_iload_n hk dX12_odd_59 rfl ?_
              refine g_callV (n := 2) hk (j199_X12_nearOf l D zt r g I23519 A23519 L23519 x23513 z1 hV23519 (by omega) (by omega) (by omega) (by omega) (by omega)) (SP.same _) (fun _ h => h) (gi_V (List.mem_cons_of_mem _ (List.mem_append_left _ (List.mem_of_getElem? (i := 10) rfl))) (List.mem_cons_of_mem _ (List.mem_append_left _ (List.mem_of_getElem? (i := 11) rfl))) (List.mem_cons_of_mem _ (List.mem_append_left _ (List.mem_of_getElem? (i := 12) rfl))) (List.mem_cons_of_mem _ (List.mem_append_left _ (List.mem_of_getElem? (i := 2) rfl))) (gi_sub (fun w h => (List.mem_cons_of_mem _ (List.mem_append_right _ (List.mem_append_right _ (List.mem_append_right _ (List.mem_append_right _ (List.mem_append_right _ (List.mem_append_left _ h)))))))) zg_j199_X12_nearOf)) rfl rfl rfl (by decide +kernel) ⟨Nat.le_of_ble_eq_true rfl, Nat.le_of_ble_eq_true rfl⟩ 0 rfl rfl rfl rfl (Nat.le_of_ble_eq_true rfl) ⟨Nat.le_of_ble_eq_true rfl, Nat.le_of_ble_eq_true rfl⟩ dX12_odd_60 (fun v ty' w' hp hk' => ?_)
              obtain ⟨I23658, A23658, L23658, hI23658, hA23658, hV23658, y23655, c23656, c23657, rfl, rfl⟩ := hp
              show GW κ 6 0 0 (wM r g I23658 A23658 L23658) 63 [(5, .int x23513), (4, .int x23514), (3, .int x23515), (0, .ref (r 0)), (1, .int z1), (2, .int z2)] [.int y23655]
              refine g_if_lt (tgt := 87) (a := y23655.toInt) hk dX12_odd_63 (by decide) rfl (fun c23659 => ?_) (fun c23659 => ?_)
              · skip
                obtain ⟨y23660, ey23660⟩ : ∃ y : Int32, y = x23513 + Int32.ofInt 1 := ⟨_, rfl⟩
                have hy23660 : y23660.toInt = x23513.toInt + 1 := i32_add ey23660 rfl (by decide) (by omega) (by omega)
                refine g_iinc (v := y23660) (lv' := [(5, .int y23660), (4, .int x23514), (3, .int x23515), (0, .ref (r 0)), (1, .int z1), (2, .int z2)]) hk 0 dX12_odd_87 rfl ey23660.symm (by decide) rfl ?_
                refine g_goto (tgt := 35) hk dX12_odd_90 (by decide) ?_
                have b23661l := Int32.le_toInt x23514
                have b23661h := Int32.toInt_lt x23514
                exact g_lv (List.forall_mem_cons.mpr ⟨List.mem_of_getElem? (i := 0) rfl, (List.forall_mem_cons.mpr ⟨List.mem_of_getElem? (i := 1) rfl, (List.forall_mem_cons.mpr ⟨List.mem_of_getElem? (i := 2) rfl, (List.forall_mem_cons.mpr ⟨List.mem_of_getElem? (i := 3) rfl, (List.forall_mem_cons.mpr ⟨List.mem_of_getElem? (i := 4) rfl, (List.forall_mem_cons.mpr ⟨List.mem_of_getElem? (i := 5) rfl, (fun _ h => absurd h List.not_mem_nil)⟩)⟩)⟩)⟩)⟩)⟩) (ih23640 y23660 x23514 x23515 I23658 A23658 L23658 (show Md [18, 19, 20, 25] I23508 I23658 from Md.tr hI23519 (show Md [18, 19, 20, 25] I23519 I23658 from (Md.tr Md.rf hI23658 rfl)) rfl) (show Md [19, 20, 21] A23508 A23658 from Md.tr hA23519 (show Md [19, 20, 21] A23519 A23658 from (Md.tr Md.rf hA23658 rfl)) rfl) hV23658 (by omega) (by omega) (by omega) (by omega) (by omega) (by omega) (by omega))
              · skip
                refine g_aload_n hk dX12_odd_66 rfl ?_
                refine gM_i25 (v := (I23658 25)) hk hin12 (List.mem_cons_of_mem _ (List.mem_append_left _ (List.mem_of_getElem? (i := 13) rfl))) dX12_odd_67 rfl ?_
                refine g_iload hk dX12_odd_70 rfl ?_
                have b23662l := Int32.le_toInt (I23658 25)
                have b23662h := Int32.toInt_lt (I23658 25)
                have b23663l := Int32.le_toInt x23514
                have b23663h := Int32.toInt_lt x23514
                refine g_icmp_gt (tgt := 78) (a := (I23658 25).toInt) (b := x23514.toInt) hk dX12_odd_72 (by decide) rfl rfl (fun c23664 => ?_) (fun c23664 => ?_)
                · skip
                  refine g_iload hk dX12_odd_78 rfl ?_
                  refine g_istore_n (lv' := [(3, .int x23513), (5, .int x23513), (4, .int x23514), (0, .ref (r 0)), (1, .int z1), (2, .int z2)]) hk dX12_odd_80 (by decide) rfl ?_
                  refine g_aload_n hk dX12_odd_81 rfl ?_
                  refine gM_i25 (v := (I23658 25)) hk hin12 (List.mem_cons_of_mem _ (List.mem_append_left _ (List.mem_of_getElem? (i := 13) rfl))) dX12_odd_82 rfl ?_
                  refine g_istore (lv' := [(4, .int (I23658 25)), (3, .int x23513), (5, .int x23513), (0, .ref (r 0)), (1, .int z1), (2, .int z2)]) hk dX12_odd_85 (by decide) rfl ?_
                  obtain ⟨y23665, ey23665⟩ : ∃ y : Int32, y = x23513 + Int32.ofInt 1 := ⟨_, rfl⟩
                  have hy23665 : y23665.toInt = x23513.toInt + 1 := i32_add ey23665 rfl (by decide) (by omega) (by omega)
                  refine g_iinc (v := y23665) (lv' := [(5, .int y23665), (4, .int (I23658 25)), (3, .int x23513), (0, .ref (r 0)), (1, .int z1), (2, .int z2)]) hk 2 dX12_odd_87 rfl ey23665.symm (by decide) rfl ?_
                  refine g_goto (tgt := 35) hk dX12_odd_90 (by decide) ?_
                  exact g_lv (List.forall_mem_cons.mpr ⟨List.mem_of_getElem? (i := 0) rfl, (List.forall_mem_cons.mpr ⟨List.mem_of_getElem? (i := 1) rfl, (List.forall_mem_cons.mpr ⟨List.mem_of_getElem? (i := 2) rfl, (List.forall_mem_cons.mpr ⟨List.mem_of_getElem? (i := 3) rfl, (List.forall_mem_cons.mpr ⟨List.mem_of_getElem? (i := 4) rfl, (List.forall_mem_cons.mpr ⟨List.mem_of_getElem? (i := 5) rfl, (fun _ h => absurd h List.not_mem_nil)⟩)⟩)⟩)⟩)⟩)⟩) (ih23640 y23665 (I23658 25) x23513 I23658 A23658 L23658 (show Md [18, 19, 20, 25] I23508 I23658 from Md.tr hI23519 (show Md [18, 19, 20, 25] I23519 I23658 from (Md.tr Md.rf hI23658 rfl)) rfl) (show Md [19, 20, 21] A23508 A23658 from Md.tr hA23519 (show Md [19, 20, 21] A23519 A23658 from (Md.tr Md.rf hA23658 rfl)) rfl) hV23658 (by omega) (by omega) (by omega) (by omega) (by omega) (by omega) (by omega))
                · skip
                  refine g_goto (tgt := 87) hk dX12_odd_75 (by decide) ?_
                  obtain ⟨y23666, ey23666⟩ : ∃ y : Int32, y = x23513 + Int32.ofInt 1 := ⟨_, rfl⟩
                  have hy23666 : y23666.toInt = x23513.toInt + 1 := i32_add ey23666 rfl (by decide) (by omega) (by omega)
                  refine g_iinc (v := y23666) (lv' := [(5, .int y23666), (4, .int x23514), (3, .int x23515), (0, .ref (r 0)), (1, .int z1), (2, .int z2)]) hk 0 dX12_odd_87 rfl ey23666.symm (by decide) rfl ?_
                  refine g_goto (tgt := 35) hk dX12_odd_90 (by decide) ?_
                  exact g_lv (List.forall_mem_cons.mpr ⟨List.mem_of_getElem? (i := 0) rfl, (List.forall_mem_cons.mpr ⟨List.mem_of_getElem? (i := 1) rfl, (List.forall_mem_cons.mpr ⟨List.mem_of_getElem? (i := 2) rfl, (List.forall_mem_cons.mpr ⟨List.mem_of_getElem? (i := 3) rfl, (List.forall_mem_cons.mpr ⟨List.mem_of_getElem? (i := 4) rfl, (List.forall_mem_cons.mpr ⟨List.mem_of_getElem? (i := 5) rfl, (fun _ h => absurd h List.not_mem_nil)⟩)⟩)⟩)⟩)⟩)⟩) (ih23640 y23666 x23514 x23515 I23658 A23658 L23658 (show Md [18, 19, 20, 25] I23508 I23658 from Md.tr hI23519 (show Md [18, 19, 20, 25] I23519 I23658 from (Md.tr Md.rf hI23658 rfl)) rfl) (show Md [19, 20, 21] A23508 A23658 from Md.tr hA23519 (show Md [19, 20, 21] A23519 A23658 from (Md.tr Md.rf hA23658 rfl)) rfl) hV23658 (by omega) (by omega) (by omega) (by omega) (by omega) (by omega) (by omega))
      have k23667 : ((-2) : Int32).toInt = (-2) := rfl
      obtain ⟨n23668, n23668a, n23668b⟩ : ∃ n : Nat, 161 - (0 : Int32).toInt < (n : Int) ∧ 0 < n := ⟨((161 - (0 : Int32).toInt : Int)).toNat + 1, by omega, by omega⟩
      exact lp23637 n23668 0 (-2) (-2) I23508 A23508 L23508 Md.rf Md.rf hV23508 (by omega) (by omega) (by omega) (by omega) (by omega) n23668a n23668b
def wo_j203_X12_cover : List Cond := [Cond.methodLink RX12 251 yX12_isQuery, Cond.instanceMethod yX12_isQuery, Cond.selects RX12 yX12_isQuery yX12_isQuery, Cond.initialized RX12, Cond.methodLink RX12 372 yX12_fillsMatches, Cond.instanceMethod yX12_fillsMatches, Cond.selects RX12 yX12_fillsMatches yX12_fillsMatches, Cond.fieldLink RX12 70 "WarpDeskModel" "now" "[I", Cond.fieldLink RX12 366 "WarpDeskModel" "matchMany" "I", Cond.fieldLink RX12 91 "WarpDeskModel" "farBy" "[I", Cond.fieldLink RX12 97 "WarpDeskModel" "matchAt" "[I", Cond.methodLink RX12 254 yX12_wideOf, Cond.instanceMethod yX12_wideOf, Cond.selects RX12 yX12_wideOf yX12_wideOf, Cond.methodLink RX12 244 yX12_in, Cond.static yX12_in]
def wz_j203_X12_cover : List Cond := .code yX12_cover cX12_cover 7 (some .int) :: (wo_j203_X12_cover ++ (wsX120 ++ (wz_j147_X12_isQuery ++ (wz_j191_X12_fillsMatches ++ (wz_j148_X12_wideOf ++ (wz_j145_X12_in ++ ([] : List Cond)))))))
theorem zg_j203_X12_cover : ∀ w ∈ wz_j203_X12_cover, goodWord w = true := zg_cons rfl (zg_app (by decide +kernel) (zg_app zgU_wsX120 (zg_app zg_j147_X12_isQuery (zg_app zg_j191_X12_fillsMatches (zg_app zg_j148_X12_wideOf (zg_app zg_j145_X12_in zg_nil))))))
theorem zi_j203_X12_cover : ∀ w ∈ wz_j203_X12_cover, w ∈ lw_tbl := zi_cons zw_1883 (zi_app (zi_cons zw_1663 (zi_cons zw_1665 (zi_cons zw_67 (zi_cons zw_115 (zi_cons zw_1868 (zi_cons zw_1870 (zi_cons zw_96 (zi_cons zw_1413 (zi_cons zw_1428 (zi_cons zw_1426 (zi_cons zw_1429 (zi_cons zw_1667 (zi_cons zw_1669 (zi_cons zw_68 (zi_cons zw_1656 (zi_cons zw_1657 zi_nil)))))))))))))))) (zi_app inX12 (zi_app zi_j147_X12_isQuery (zi_app zi_j191_X12_fillsMatches (zi_app zi_j148_X12_wideOf (zi_app zi_j145_X12_in zi_nil))))))
set_option maxHeartbeats 4000000 in
set_option maxRecDepth 100000 in
theorem j203_X12_cover (l : Launch) (D : va_G) (zt : Nat × Nat × Nat × (Nat → Nat) × (Nat → Nat)) (r : Nat → Nat) (g : Nat → ClassId) (I : Nat → Int32) (A : Nat → Nat → Int32) (L : Nat → Nat → Int64) (z1 : Int32) (z2 : Int32) (hIv : IvM I A) : GM l D zt (tyM g) yX12_cover wz_j203_X12_cover ({ frames := 8, cells := 0, slots := 0, locals := 179 } : Room) [.ref (r 0), .int z1, .int z2] (wM r g I A L) (fun v _ w' => ∃ (I' : Nat → Int32) (A' : Nat → Nat → Int32) (L' : Nat → Nat → Int64), Md [18, 19, 20, 24] I I' ∧ Md [18, 19, 20, 21, 24, 26] A A' ∧ IvM I' A' ∧ ∃ y0 : Int32, v = some (.int y0) ∧ w' = wM r g I' A' L') 0 0 := by
  refine GM.of (cc := cX12_cover) (maxL := 7) (ret := (some .int)) (own := RX12) (lv := [(0, .ref (r 0)), (1, .int z1), (2, .int z2)]) (by decide) rfl rfl (Nat.le_of_ble_eq_true rfl) rfl (fun κ sz hk hR hN => ?_)
  have hin12 : ∀ w ∈ u_ws RX12 TX12 55, w ∈ wz_j203_X12_cover := fun w h => (List.mem_cons_of_mem _ (List.mem_append_right _ (List.mem_append_left _ h)))
  refine g_aload_n hk dX12_cover_0 rfl ?_
  refine g_iload_n hk dX12_cover_1 rfl ?_
  refine g_callV (n := 1) hk (j147_X12_isQuery l D zt r g I A L z1 hIv) (SP.same _) (fun _ h => h) (gi_V (List.mem_cons_of_mem _ (List.mem_append_left _ (List.mem_of_getElem? (i := 0) rfl))) (List.mem_cons_of_mem _ (List.mem_append_left _ (List.mem_of_getElem? (i := 1) rfl))) (List.mem_cons_of_mem _ (List.mem_append_left _ (List.mem_of_getElem? (i := 2) rfl))) (List.mem_cons_of_mem _ (List.mem_append_left _ (List.mem_of_getElem? (i := 3) rfl))) (gi_sub (fun w h => (List.mem_cons_of_mem _ (List.mem_append_right _ (List.mem_append_right _ (List.mem_append_left _ h))))) zg_j147_X12_isQuery)) rfl rfl rfl (by decide +kernel) ⟨Nat.le_of_ble_eq_true rfl, Nat.le_of_ble_eq_true rfl⟩ 0 rfl rfl rfl rfl (Nat.le_of_ble_eq_true rfl) ⟨Nat.le_of_ble_eq_true rfl, Nat.le_of_ble_eq_true rfl⟩ dX12_cover_2 (fun v ty' w' hp hk' => ?_)
  rcases hp with ⟨rfl, rfl⟩ | ⟨c23670, c23671, c23672, c23673, rfl, rfl⟩
  · skip
    show GW κ 7 0 0 (wM r g I A L) 5 [(0, .ref (r 0)), (1, .int z1), (2, .int z2)] [.int 0]
    refine g_if_eq (tgt := 12) (a := 0) hk dX12_cover_5 (by decide) rfl (fun _ => ?_) (fun z9 => absurd (show (0 : Int) = (0 : Int) from by decide) z9)
    refine g_iconst (v := (-1)) hk dX12_cover_12 (by decide) ?_
    exact g_iret hk hR rfl ⟨I, A, L, (show Md [18, 19, 20, 24] I I from Md.rf), (show Md [18, 19, 20, 21, 24, 26] A A from Md.rf), hIv, (-1), rfl, rfl⟩ dX12_cover_13
  · skip
    have f23675 : 0 ≤ (A 11 (5 * (I 15) + z1).toNatClampNeg).toInt ∧ (A 11 (5 * (I 15) + z1).toNatClampNeg).toInt ≤ 16 := IvM_a11 hIv _
    show GW κ 7 0 0 (wM r g I A L) 5 [(0, .ref (r 0)), (1, .int z1), (2, .int z2)] [.int 1]
    refine g_if_eq (tgt := 12) (a := 1) hk dX12_cover_5 (by decide) rfl (fun z9 => absurd z9 (show ¬ ((1 : Int) = (0 : Int)) from by decide)) (fun _ => ?_)
    refine g_iload_n hk dX12_cover_8 rfl ?_
    have b23676l := Int32.le_toInt z2
    have b23676h := Int32.toInt_lt z2
    refine g_if_ge (tgt := 14) (a := z2.toInt) hk dX12_cover_9 (by decide) rfl (fun c23677 => ?_) (fun c23677 => ?_)
    · skip
      refine g_aload_n hk dX12_cover_14 rfl ?_
      refine g_iload_n hk dX12_cover_15 rfl ?_
      refine g_callV (n := 1) hk (j191_X12_fillsMatches l D zt r g I A L z1 hIv (by omega) (by omega)) (SP.same _) (fun _ h => h) (gi_V (List.mem_cons_of_mem _ (List.mem_append_left _ (List.mem_of_getElem? (i := 4) rfl))) (List.mem_cons_of_mem _ (List.mem_append_left _ (List.mem_of_getElem? (i := 5) rfl))) (List.mem_cons_of_mem _ (List.mem_append_left _ (List.mem_of_getElem? (i := 6) rfl))) (List.mem_cons_of_mem _ (List.mem_append_left _ (List.mem_of_getElem? (i := 3) rfl))) (gi_sub (fun w h => (List.mem_cons_of_mem _ (List.mem_append_right _ (List.mem_append_right _ (List.mem_append_right _ (List.mem_append_left _ h)))))) zg_j191_X12_fillsMatches)) rfl rfl rfl (by decide +kernel) ⟨Nat.le_of_ble_eq_true rfl, Nat.le_of_ble_eq_true rfl⟩ 0 rfl rfl rfl rfl (Nat.le_of_ble_eq_true rfl) ⟨Nat.le_of_ble_eq_true rfl, Nat.le_of_ble_eq_true rfl⟩ dX12_cover_16 (fun v ty' w' hp hk' => ?_)
      obtain ⟨I23679, A23679, L23679, hI23679, hA23679, hV23679, rfl, rfl⟩ := hp
      show GW κ 7 0 0 (wM r g I23679 A23679 L23679) 19 [(0, .ref (r 0)), (1, .int z1), (2, .int z2)] []
      refine g_iconst (v := 0) hk dX12_cover_19 (by decide) ?_
      refine g_istore_n (lv' := [(3, .int 0), (0, .ref (r 0)), (1, .int z1), (2, .int z2)]) hk dX12_cover_20 (by decide) rfl ?_
      refine g_iconst (v := 0) hk dX12_cover_21 (by decide) ?_
      refine g_istore (lv' := [(4, .int 0), (3, .int 0), (0, .ref (r 0)), (1, .int z1), (2, .int z2)]) hk dX12_cover_22 (by decide) rfl ?_
      have lp24269 : ∀ (n24270 : Nat) (x23680 : Int32) (x23681 : Int32), (0 ≤ x23680.toInt) → (x23680.toInt ≤ 160) → (161 - x23680.toInt < (n24270 : Int)) → (0 < n24270) → GW κ 7 0 0 (wM r g I23679 A23679 L23679) 24 [(4, .int x23680), (3, .int x23681), (0, .ref (r 0)), (1, .int z1), (2, .int z2)] [] := by
        intro n24270
        induction n24270 with
        | zero =>
          intro x23680 x23681 h24267 h24268 m24271 m24271z
          exact absurd m24271z (Nat.lt_irrefl 0)
        | succ n24270 ih24272 =>
          intro x23680 x23681 h24267 h24268 m24271 m24271z
          refine g_iload hk dX12_cover_24 rfl ?_
          refine g_aload_n hk dX12_cover_26 rfl ?_
          refine gM_r0_35 hk hin12 (List.mem_cons_of_mem _ (List.mem_append_left _ (List.mem_of_getElem? (i := 7) rfl))) dX12_cover_27 ?_
          refine g_iconst (v := 0) hk dX12_cover_30 (by decide) ?_
          refine lM_17 (v := (A 17 0)) hk (vp_in_iff.mpr ⟨by decide, by decide⟩) (congrFun (hA23679 17 rfl) _) dX12_cover_31 ?_
          have f24273 := IvM_s17_0 hIv
          refine g_icmp_ge (tgt := 113) (a := x23680.toInt) (b := (A 17 0).toInt) hk dX12_cover_32 (by decide) rfl rfl (fun c24274 => ?_) (fun c24274 => ?_)
          · skip
            refine g_iload_n hk dX12_cover_113 rfl ?_
            have b24275l := Int32.le_toInt x23681
            have b24275h := Int32.toInt_lt x23681
            exact g_iret hk hR rfl ⟨I23679, A23679, L23679, (show Md [18, 19, 20, 24] I I23679 from (Md.tr Md.rf hI23679 rfl)), (show Md [18, 19, 20, 21, 24, 26] A A23679 from (Md.tr Md.rf hA23679 rfl)), hV23679, x23681, rfl, rfl⟩ dX12_cover_114
          · skip
            refine g_iconst (v := 0) hk dX12_cover_35 (by decide) ?_
            refine g_istore (lv' := [(5, .int 0), (4, .int x23680), (3, .int x23681), (0, .ref (r 0)), (1, .int z1), (2, .int z2)]) hk dX12_cover_36 (by decide) rfl ?_
            refine g_iconst (v := 0) hk dX12_cover_38 (by decide) ?_
            refine g_istore (lv' := [(6, .int 0), (5, .int 0), (4, .int x23680), (3, .int x23681), (0, .ref (r 0)), (1, .int z1), (2, .int z2)]) hk dX12_cover_39 (by decide) rfl ?_
            have lp24373 : ∀ (n24374 : Nat) (x24276 : Int32) (x24277 : Int32), (0 ≤ x24276.toInt) → (x24276.toInt ≤ 160) → (0 ≤ x24277.toInt) → (x24277.toInt ≤ 1) → (161 - x24276.toInt < (n24374 : Int)) → (0 < n24374) → GW κ 7 0 0 (wM r g I23679 A23679 L23679) 41 [(6, .int x24276), (5, .int x24277), (4, .int x23680), (3, .int x23681), (0, .ref (r 0)), (1, .int z1), (2, .int z2)] [] := by
              intro n24374
              induction n24374 with
              | zero =>
                intro x24276 x24277 h24369 h24370 h24371 h24372 m24375 m24375z
                exact absurd m24375z (Nat.lt_irrefl 0)
              | succ n24374 ih24376 =>
                intro x24276 x24277 h24369 h24370 h24371 h24372 m24375 m24375z
                refine g_iload hk dX12_cover_41 rfl ?_
                refine g_aload_n hk dX12_cover_43 rfl ?_
                refine gM_i24 (v := (I23679 24)) hk hin12 (List.mem_cons_of_mem _ (List.mem_append_left _ (List.mem_of_getElem? (i := 8) rfl))) dX12_cover_44 rfl ?_
                have f24377 := IvM_f24 hV23679
                refine g_icmp_ge (tgt := 99) (a := x24276.toInt) (b := (I23679 24).toInt) hk dX12_cover_47 (by decide) rfl rfl (fun c24378 => ?_) (fun c24378 => ?_)
                · skip
                  refine g_iload hk dX12_cover_99 rfl ?_
                  refine g_if_eq (tgt := 107) (a := x24277.toInt) hk dX12_cover_101 (by decide) rfl (fun c24379 => ?_) (fun c24379 => ?_)
                  · skip
                    obtain ⟨y24380, ey24380⟩ : ∃ y : Int32, y = x23680 + Int32.ofInt 1 := ⟨_, rfl⟩
                    have hy24380 : y24380.toInt = x23680.toInt + 1 := i32_add ey24380 rfl (by decide) (by omega) (by omega)
                    refine g_iinc (v := y24380) (lv' := [(4, .int y24380), (6, .int x24276), (5, .int x24277), (3, .int x23681), (0, .ref (r 0)), (1, .int z1), (2, .int z2)]) hk 2 dX12_cover_107 rfl ey24380.symm (by decide) rfl ?_
                    refine g_goto (tgt := 24) hk dX12_cover_110 (by decide) ?_
                    have b24381l := Int32.le_toInt x23681
                    have b24381h := Int32.toInt_lt x23681
                    exact g_lv (List.forall_mem_cons.mpr ⟨List.mem_of_getElem? (i := 0) rfl, (List.forall_mem_cons.mpr ⟨List.mem_of_getElem? (i := 3) rfl, (List.forall_mem_cons.mpr ⟨List.mem_of_getElem? (i := 4) rfl, (List.forall_mem_cons.mpr ⟨List.mem_of_getElem? (i := 5) rfl, (List.forall_mem_cons.mpr ⟨List.mem_of_getElem? (i := 6) rfl, (fun _ h => absurd h List.not_mem_nil)⟩)⟩)⟩)⟩)⟩) (ih24272 y24380 x23681 (by omega) (by omega) (by omega) (by omega))
                  · skip
                    have b24382l := Int32.le_toInt x23681
                    have b24382h := Int32.toInt_lt x23681
                    obtain ⟨y24383, ey24383⟩ : ∃ y : Int32, y = x23681 + Int32.ofInt 1 := ⟨_, rfl⟩
                    refine g_iinc (v := y24383) (lv' := [(3, .int y24383), (6, .int x24276), (5, .int x24277), (4, .int x23680), (0, .ref (r 0)), (1, .int z1), (2, .int z2)]) hk 3 dX12_cover_104 rfl ey24383.symm (by decide) rfl ?_
                    obtain ⟨y24384, ey24384⟩ : ∃ y : Int32, y = x23680 + Int32.ofInt 1 := ⟨_, rfl⟩
                    have hy24384 : y24384.toInt = x23680.toInt + 1 := i32_add ey24384 rfl (by decide) (by omega) (by omega)
                    refine g_iinc (v := y24384) (lv' := [(4, .int y24384), (3, .int y24383), (6, .int x24276), (5, .int x24277), (0, .ref (r 0)), (1, .int z1), (2, .int z2)]) hk 3 dX12_cover_107 rfl ey24384.symm (by decide) rfl ?_
                    refine g_goto (tgt := 24) hk dX12_cover_110 (by decide) ?_
                    have b24385l := Int32.le_toInt y24383
                    have b24385h := Int32.toInt_lt y24383
                    exact g_lv (List.forall_mem_cons.mpr ⟨List.mem_of_getElem? (i := 0) rfl, (List.forall_mem_cons.mpr ⟨List.mem_of_getElem? (i := 1) rfl, (List.forall_mem_cons.mpr ⟨List.mem_of_getElem? (i := 4) rfl, (List.forall_mem_cons.mpr ⟨List.mem_of_getElem? (i := 5) rfl, (List.forall_mem_cons.mpr ⟨List.mem_of_getElem? (i := 6) rfl, (fun _ h => absurd h List.not_mem_nil)⟩)⟩)⟩)⟩)⟩) (ih24272 y24384 y24383 (by omega) (by omega) (by omega) (by omega))
                · skip
                  refine g_aload_n hk dX12_cover_50 rfl ?_
                  refine gM_r0_48 hk hin12 (List.mem_cons_of_mem _ (List.mem_append_left _ (List.mem_of_getElem? (i := 9) rfl))) dX12_cover_51 ?_
                  refine g_aload_n hk dX12_cover_54 rfl ?_
                  refine gM_r0_51 hk hin12 (List.mem_cons_of_mem _ (List.mem_append_left _ (List.mem_of_getElem? (i := 10) rfl))) dX12_cover_55 ?_
                  refine g_iload hk dX12_cover_58 rfl ?_
                  refine lM_26 (v := (A23679 26 x24276.toNatClampNeg)) hk (vp_in_iff.mpr ⟨by omega, by omega⟩) rfl dX12_cover_60 ?_
                  have f24386 := IvM_a26 hV23679 (x24276.toNatClampNeg)
                  refine lM_24 (v := (A23679 24 (A23679 26 x24276.toNatClampNeg).toNatClampNeg)) hk (vp_in_iff.mpr ⟨by omega, by omega⟩) rfl dX12_cover_61 ?_
                  refine g_iload_n hk dX12_cover_62 rfl ?_
                  have b24387l := Int32.le_toInt (A23679 24 (A23679 26 x24276.toNatClampNeg).toNatClampNeg)
                  have b24387h := Int32.toInt_lt (A23679 24 (A23679 26 x24276.toNatClampNeg).toNatClampNeg)
                  refine g_icmp_gt (tgt := 93) (a := (A23679 24 (A23679 26 x24276.toNatClampNeg).toNatClampNeg).toInt) (b := z2.toInt) hk dX12_cover_63 (by decide) rfl rfl (fun c24388 => ?_) (fun c24388 => ?_)
                  · skip
                    obtain ⟨y24389, ey24389⟩ : ∃ y : Int32, y = x24276 + Int32.ofInt 1 := ⟨_, rfl⟩
                    have hy24389 : y24389.toInt = x24276.toInt + 1 := i32_add ey24389 rfl (by decide) (by omega) (by omega)
                    refine g_iinc (v := y24389) (lv' := [(6, .int y24389), (5, .int x24277), (4, .int x23680), (3, .int x23681), (0, .ref (r 0)), (1, .int z1), (2, .int z2)]) hk 0 dX12_cover_93 rfl ey24389.symm (by decide) rfl ?_
                    refine g_goto (tgt := 41) hk dX12_cover_96 (by decide) ?_
                    exact g_lv (List.forall_mem_cons.mpr ⟨List.mem_of_getElem? (i := 0) rfl, (List.forall_mem_cons.mpr ⟨List.mem_of_getElem? (i := 1) rfl, (List.forall_mem_cons.mpr ⟨List.mem_of_getElem? (i := 2) rfl, (List.forall_mem_cons.mpr ⟨List.mem_of_getElem? (i := 3) rfl, (List.forall_mem_cons.mpr ⟨List.mem_of_getElem? (i := 4) rfl, (List.forall_mem_cons.mpr ⟨List.mem_of_getElem? (i := 5) rfl, (List.forall_mem_cons.mpr ⟨List.mem_of_getElem? (i := 6) rfl, (fun _ h => absurd h List.not_mem_nil)⟩)⟩)⟩)⟩)⟩)⟩)⟩) (ih24376 y24389 x24277 (by omega) (by omega) (by omega) (by omega) (by omega) (by omega))
                  · skip
                    refine g_iload hk dX12_cover_66 rfl ?_
                    refine g_aload_n hk dX12_cover_68 rfl ?_
                    refine gM_r0_51 hk hin12 (List.mem_cons_of_mem _ (List.mem_append_left _ (List.mem_of_getElem? (i := 10) rfl))) dX12_cover_69 ?_
                    refine g_iload hk dX12_cover_72 rfl ?_
                    refine lM_26 (v := (A23679 26 x24276.toNatClampNeg)) hk (vp_in_iff.mpr ⟨by omega, by omega⟩) rfl dX12_cover_74 ?_
                    refine g_isub hk dX12_cover_75 ?_
                    refine g_topi (fun y24390 ey24390 => ?_)
                    have hy24390 : y24390.toInt = x23680.toInt - (A23679 26 x24276.toNatClampNeg).toInt := i32_sub ey24390 rfl rfl (by omega) (by omega)
                    refine g_iconst (v := 0) hk dX12_cover_76 (by decide) ?_
                    refine g_aload_n hk dX12_cover_77 rfl ?_
                    refine g_iload_n hk dX12_cover_78 rfl ?_
                    refine g_callV (n := 1) hk (j148_X12_wideOf l D zt r g I23679 A23679 L23679 z1 hV23679 (by omega) (by omega)) (SP.same _) (fun _ h => h) (gi_V (List.mem_cons_of_mem _ (List.mem_append_left _ (List.mem_of_getElem? (i := 11) rfl))) (List.mem_cons_of_mem _ (List.mem_append_left _ (List.mem_of_getElem? (i := 12) rfl))) (List.mem_cons_of_mem _ (List.mem_append_left _ (List.mem_of_getElem? (i := 13) rfl))) (List.mem_cons_of_mem _ (List.mem_append_left _ (List.mem_of_getElem? (i := 3) rfl))) (gi_sub (fun w h => (List.mem_cons_of_mem _ (List.mem_append_right _ (List.mem_append_right _ (List.mem_append_right _ (List.mem_append_right _ (List.mem_append_left _ h))))))) zg_j148_X12_wideOf)) rfl rfl rfl (by decide +kernel) ⟨Nat.le_of_ble_eq_true rfl, Nat.le_of_ble_eq_true rfl⟩ 0 rfl rfl rfl rfl (Nat.le_of_ble_eq_true rfl) ⟨Nat.le_of_ble_eq_true rfl, Nat.le_of_ble_eq_true rfl⟩ dX12_cover_79 (fun v ty' w' hp hk' => ?_)
                    obtain ⟨rfl, rfl⟩ := hp
                    show GW κ 7 0 0 (wM r g I23679 A23679 L23679) 82 [(6, .int x24276), (5, .int x24277), (4, .int x23680), (3, .int x23681), (0, .ref (r 0)), (1, .int z1), (2, .int z2)] [.int (A23679 11 (5 * (I23679 15) + z1).toNatClampNeg), .int 0, .int y24390]
                    refine g_norm (v := (A 11 (5 * (I 15) + z1).toNatClampNeg)) (by rw [show I23679 15 = (I 15) from (hI23679 15 rfl)]; exact (congrFun (hA23679 11 rfl) _)) ?_
                    refine g_iconst (v := 1) hk dX12_cover_82 (by decide) ?_
                    refine g_isub hk dX12_cover_83 ?_
                    refine g_topi (fun y24391 ey24391 => ?_)
                    have hy24391 : y24391.toInt = (A 11 (5 * (I 15) + z1).toNatClampNeg).toInt - 1 := i32_sub ey24391 rfl rfl (by omega) (by omega)
                    have k24392 : (0 : Int32).toInt = 0 := rfl
                    refine g_callS (n := 3) hk (j145_X12_in l D zt r g I23679 A23679 L23679 y24390 0 y24391 hV23679) (SP.same _) (fun _ h => h) (gi_S (List.mem_cons_of_mem _ (List.mem_append_left _ (List.mem_of_getElem? (i := 14) rfl))) (List.mem_cons_of_mem _ (List.mem_append_left _ (List.mem_of_getElem? (i := 15) rfl))) (List.mem_cons_of_mem _ (List.mem_append_left _ (List.mem_of_getElem? (i := 3) rfl))) (gi_sub (fun w h => (List.mem_cons_of_mem _ (List.mem_append_right _ (List.mem_append_right _ (List.mem_append_right _ (List.mem_append_right _ (List.mem_append_right _ (List.mem_append_left _ h)))))))) zg_j145_X12_in)) rfl rfl rfl (by decide +kernel) ⟨Nat.le_of_ble_eq_true rfl, Nat.le_of_ble_eq_true rfl⟩ rfl rfl (Nat.le_of_ble_eq_true rfl) ⟨Nat.le_of_ble_eq_true rfl, Nat.le_of_ble_eq_true rfl⟩ dX12_cover_84 (fun v ty' w' hp hk' => ?_)
                    rcases hp with ⟨c24393, rfl, rfl⟩ | ⟨c24395, c24396, rfl, rfl⟩
                    · skip
                      show GW κ 7 0 0 (wM r g I23679 A23679 L23679) 87 [(6, .int x24276), (5, .int x24277), (4, .int x23680), (3, .int x23681), (0, .ref (r 0)), (1, .int z1), (2, .int z2)] [.int 0]
                      refine g_if_eq (tgt := 93) (a := 0) hk dX12_cover_87 (by decide) rfl (fun _ => ?_) (fun z9 => absurd (show (0 : Int) = (0 : Int) from by decide) z9)
                      obtain ⟨y24398, ey24398⟩ : ∃ y : Int32, y = x24276 + Int32.ofInt 1 := ⟨_, rfl⟩
                      have hy24398 : y24398.toInt = x24276.toInt + 1 := i32_add ey24398 rfl (by decide) (by omega) (by omega)
                      refine g_iinc (v := y24398) (lv' := [(6, .int y24398), (5, .int x24277), (4, .int x23680), (3, .int x23681), (0, .ref (r 0)), (1, .int z1), (2, .int z2)]) hk 0 dX12_cover_93 rfl ey24398.symm (by decide) rfl ?_
                      refine g_goto (tgt := 41) hk dX12_cover_96 (by decide) ?_
                      exact g_lv (List.forall_mem_cons.mpr ⟨List.mem_of_getElem? (i := 0) rfl, (List.forall_mem_cons.mpr ⟨List.mem_of_getElem? (i := 1) rfl, (List.forall_mem_cons.mpr ⟨List.mem_of_getElem? (i := 2) rfl, (List.forall_mem_cons.mpr ⟨List.mem_of_getElem? (i := 3) rfl, (List.forall_mem_cons.mpr ⟨List.mem_of_getElem? (i := 4) rfl, (List.forall_mem_cons.mpr ⟨List.mem_of_getElem? (i := 5) rfl, (List.forall_mem_cons.mpr ⟨List.mem_of_getElem? (i := 6) rfl, (fun _ h => absurd h List.not_mem_nil)⟩)⟩)⟩)⟩)⟩)⟩)⟩) (ih24376 y24398 x24277 (by omega) (by omega) (by omega) (by omega) (by omega) (by omega))
                    · skip
                      show GW κ 7 0 0 (wM r g I23679 A23679 L23679) 87 [(6, .int x24276), (5, .int x24277), (4, .int x23680), (3, .int x23681), (0, .ref (r 0)), (1, .int z1), (2, .int z2)] [.int 1]
                      refine g_if_eq (tgt := 93) (a := 1) hk dX12_cover_87 (by decide) rfl (fun z9 => absurd z9 (show ¬ ((1 : Int) = (0 : Int)) from by decide)) (fun _ => ?_)
                      refine g_iconst (v := 1) hk dX12_cover_90 (by decide) ?_
                      refine g_istore (lv' := [(5, .int 1), (6, .int x24276), (4, .int x23680), (3, .int x23681), (0, .ref (r 0)), (1, .int z1), (2, .int z2)]) hk dX12_cover_91 (by decide) rfl ?_
                      obtain ⟨y24399, ey24399⟩ : ∃ y : Int32, y = x24276 + Int32.ofInt 1 := ⟨_, rfl⟩
                      have hy24399 : y24399.toInt = x24276.toInt + 1 := i32_add ey24399 rfl (by decide) (by omega) (by omega)
                      refine g_iinc (v := y24399) (lv' := [(6, .int y24399), (5, .int 1), (4, .int x23680), (3, .int x23681), (0, .ref (r 0)), (1, .int z1), (2, .int z2)]) hk 1 dX12_cover_93 rfl ey24399.symm (by decide) rfl ?_
                      refine g_goto (tgt := 41) hk dX12_cover_96 (by decide) ?_
                      have k24400 : (1 : Int32).toInt = 1 := rfl
                      exact g_lv (List.forall_mem_cons.mpr ⟨List.mem_of_getElem? (i := 0) rfl, (List.forall_mem_cons.mpr ⟨List.mem_of_getElem? (i := 1) rfl, (List.forall_mem_cons.mpr ⟨List.mem_of_getElem? (i := 2) rfl, (List.forall_mem_cons.mpr ⟨List.mem_of_getElem? (i := 3) rfl, (List.forall_mem_cons.mpr ⟨List.mem_of_getElem? (i := 4) rfl, (List.forall_mem_cons.mpr ⟨List.mem_of_getElem? (i := 5) rfl, (List.forall_mem_cons.mpr ⟨List.mem_of_getElem? (i := 6) rfl, (fun _ h => absurd h List.not_mem_nil)⟩)⟩)⟩)⟩)⟩)⟩)⟩) (ih24376 y24399 1 (by omega) (by omega) (by omega) (by omega) (by omega) (by omega))
            have k24401 : (0 : Int32).toInt = 0 := rfl
            obtain ⟨n24402, n24402a, n24402b⟩ : ∃ n : Nat, 161 - (0 : Int32).toInt < (n : Int) ∧ 0 < n := ⟨((161 - (0 : Int32).toInt : Int)).toNat + 1, by omega, by omega⟩
            exact lp24373 n24402 0 0 (by omega) (by omega) (by omega) (by omega) n24402a n24402b
      have k24403 : (0 : Int32).toInt = 0 := rfl
      obtain ⟨n24404, n24404a, n24404b⟩ : ∃ n : Nat, 161 - (0 : Int32).toInt < (n : Int) ∧ 0 < n := ⟨((161 - (0 : Int32).toInt : Int)).toNat + 1, by omega, by omega⟩
      exact lp24269 n24404 0 0 (by omega) (by omega) n24404a n24404b
    · skip
      refine g_iconst (v := (-1)) hk dX12_cover_12 (by decide) ?_
      exact g_iret hk hR rfl ⟨I, A, L, (show Md [18, 19, 20, 24] I I from Md.rf), (show Md [18, 19, 20, 21, 24, 26] A A from Md.rf), hIv, (-1), rfl, rfl⟩ dX12_cover_13
def wo_j204_X12_lean : List Cond := [Cond.methodLink RX12 342 yX12_isOf, Cond.instanceMethod yX12_isOf, Cond.selects RX12 yX12_isOf yX12_isOf, Cond.initialized RX12, Cond.methodLink RX12 244 yX12_in, Cond.static yX12_in, Cond.methodLink RX12 323 yX12_copies, Cond.instanceMethod yX12_copies, Cond.selects RX12 yX12_copies yX12_copies, Cond.methodLink RX12 345 yX12_distanceOf, Cond.instanceMethod yX12_distanceOf, Cond.selects RX12 yX12_distanceOf yX12_distanceOf, Cond.methodLink RX12 354 yX12_fillsWay, Cond.instanceMethod yX12_fillsWay, Cond.selects RX12 yX12_fillsWay yX12_fillsWay, Cond.fieldLink RX12 351 "WarpDeskModel" "wayMany" "I", Cond.fieldLink RX12 88 "WarpDeskModel" "wayAt" "[I"]
def wz_j204_X12_lean : List Cond := .code yX12_lean cX12_lean 8 (some .int) :: (wo_j204_X12_lean ++ (wsX120 ++ (wz_j168_X12_isOf ++ (wz_j145_X12_in ++ (wz_j151_X12_copies ++ (wz_j169_X12_distanceOf ++ (wz_j195_X12_fillsWay ++ ([] : List Cond))))))))
theorem zg_j204_X12_lean : ∀ w ∈ wz_j204_X12_lean, goodWord w = true := zg_cons rfl (zg_app (by decide +kernel) (zg_app zgU_wsX120 (zg_app zg_j168_X12_isOf (zg_app zg_j145_X12_in (zg_app zg_j151_X12_copies (zg_app zg_j169_X12_distanceOf (zg_app zg_j195_X12_fillsWay zg_nil)))))))
theorem zi_j204_X12_lean : ∀ w ∈ wz_j204_X12_lean, w ∈ lw_tbl := zi_cons zw_1839 (zi_app (zi_cons zw_1755 (zi_cons zw_1757 (zi_cons zw_78 (zi_cons zw_115 (zi_cons zw_1656 (zi_cons zw_1657 (zi_cons zw_1679 (zi_cons zw_1681 (zi_cons zw_70 (zi_cons zw_1759 (zi_cons zw_1761 (zi_cons zw_79 (zi_cons zw_1832 (zi_cons zw_1834 (zi_cons zw_92 (zi_cons zw_1425 (zi_cons zw_1424 zi_nil))))))))))))))))) (zi_app inX12 (zi_app zi_j168_X12_isOf (zi_app zi_j145_X12_in (zi_app zi_j151_X12_copies (zi_app zi_j169_X12_distanceOf (zi_app zi_j195_X12_fillsWay zi_nil)))))))
set_option maxHeartbeats 4000000 in
set_option maxRecDepth 100000 in
theorem j204_X12_lean (l : Launch) (D : va_G) (zt : Nat × Nat × Nat × (Nat → Nat) × (Nat → Nat)) (r : Nat → Nat) (g : Nat → ClassId) (I : Nat → Int32) (A : Nat → Nat → Int32) (L : Nat → Nat → Int64) (z1 : Int32) (z2 : Int32) (z3 : Int32) (hIv : IvM I A) : GM l D zt (tyM g) yX12_lean wz_j204_X12_lean ({ frames := 6, cells := 0, slots := 0, locals := 134 } : Room) [.ref (r 0), .int z1, .int z2, .int z3] (wM r g I A L) (fun v _ w' => ∃ (I' : Nat → Int32) (A' : Nat → Nat → Int32) (L' : Nat → Nat → Int64), Md [18, 19, 20, 23] I I' ∧ Md [18, 19, 20, 21, 23] A A' ∧ IvM I' A' ∧ ∃ y0 : Int32, v = some (.int y0) ∧ w' = wM r g I' A' L') 0 0 := by
  refine GM.of (cc := cX12_lean) (maxL := 8) (ret := (some .int)) (own := RX12) (lv := [(0, .ref (r 0)), (1, .int z1), (2, .int z2), (3, .int z3)]) (by decide) rfl rfl (Nat.le_of_ble_eq_true rfl) rfl (fun κ sz hk hR hN => ?_)
  have hin12 : ∀ w ∈ u_ws RX12 TX12 55, w ∈ wz_j204_X12_lean := fun w h => (List.mem_cons_of_mem _ (List.mem_append_right _ (List.mem_append_left _ h)))
  refine g_aload_n hk dX12_lean_0 rfl ?_
  refine g_iload_n hk dX12_lean_1 rfl ?_
  refine g_iload_n hk dX12_lean_2 rfl ?_
  refine g_callV (n := 2) hk (j168_X12_isOf l D zt r g I A L z1 z2 hIv) (SP.same _) (fun _ h => h) (gi_V (List.mem_cons_of_mem _ (List.mem_append_left _ (List.mem_of_getElem? (i := 0) rfl))) (List.mem_cons_of_mem _ (List.mem_append_left _ (List.mem_of_getElem? (i := 1) rfl))) (List.mem_cons_of_mem _ (List.mem_append_left _ (List.mem_of_getElem? (i := 2) rfl))) (List.mem_cons_of_mem _ (List.mem_append_left _ (List.mem_of_getElem? (i := 3) rfl))) (gi_sub (fun w h => (List.mem_cons_of_mem _ (List.mem_append_right _ (List.mem_append_right _ (List.mem_append_left _ h))))) zg_j168_X12_isOf)) rfl rfl rfl (by decide +kernel) ⟨Nat.le_of_ble_eq_true rfl, Nat.le_of_ble_eq_true rfl⟩ 0 rfl rfl rfl rfl (Nat.le_of_ble_eq_true rfl) ⟨Nat.le_of_ble_eq_true rfl, Nat.le_of_ble_eq_true rfl⟩ dX12_lean_3 (fun v ty' w' hp hk' => ?_)
  rcases hp with ⟨rfl, rfl⟩ | ⟨c24406, c24407, c24408, c24409, c24410, c24411, c24412, c24413, c24414, c24415, c24416, c24417, rfl, rfl⟩
  · skip
    show GW κ 8 0 0 (wM r g I A L) 6 [(0, .ref (r 0)), (1, .int z1), (2, .int z2), (3, .int z3)] [.int 0]
    refine g_if_eq (tgt := 18) (a := 0) hk dX12_lean_6 (by decide) rfl (fun _ => ?_) (fun z9 => absurd (show (0 : Int) = (0 : Int) from by decide) z9)
    refine g_iconst (v := (-1)) hk dX12_lean_18 (by decide) ?_
    exact g_iret hk hR rfl ⟨I, A, L, (show Md [18, 19, 20, 23] I I from Md.rf), (show Md [18, 19, 20, 21, 23] A A from Md.rf), hIv, (-1), rfl, rfl⟩ dX12_lean_19
  · skip
    have f24419 : 0 ≤ (A 11 (5 * (I 15) + z1).toNatClampNeg).toInt ∧ (A 11 (5 * (I 15) + z1).toNatClampNeg).toInt ≤ 16 := IvM_a11 hIv _
    show GW κ 8 0 0 (wM r g I A L) 6 [(0, .ref (r 0)), (1, .int z1), (2, .int z2), (3, .int z3)] [.int 1]
    refine g_if_eq (tgt := 18) (a := 1) hk dX12_lean_6 (by decide) rfl (fun z9 => absurd z9 (show ¬ ((1 : Int) = (0 : Int)) from by decide)) (fun _ => ?_)
    refine g_iload_n hk dX12_lean_9 rfl ?_
    refine g_iconst (v := 0) hk dX12_lean_10 (by decide) ?_
    refine g_iconst (v := 1) hk dX12_lean_11 (by decide) ?_
    have k24420 : (0 : Int32).toInt = 0 := rfl
    have k24421 : (1 : Int32).toInt = 1 := rfl
    refine g_callS (n := 3) hk (j145_X12_in l D zt r g I A L z3 0 1 hIv) (SP.same _) (fun _ h => h) (gi_S (List.mem_cons_of_mem _ (List.mem_append_left _ (List.mem_of_getElem? (i := 4) rfl))) (List.mem_cons_of_mem _ (List.mem_append_left _ (List.mem_of_getElem? (i := 5) rfl))) (List.mem_cons_of_mem _ (List.mem_append_left _ (List.mem_of_getElem? (i := 3) rfl))) (gi_sub (fun w h => (List.mem_cons_of_mem _ (List.mem_append_right _ (List.mem_append_right _ (List.mem_append_right _ (List.mem_append_left _ h)))))) zg_j145_X12_in)) rfl rfl rfl (by decide +kernel) ⟨Nat.le_of_ble_eq_true rfl, Nat.le_of_ble_eq_true rfl⟩ rfl rfl (Nat.le_of_ble_eq_true rfl) ⟨Nat.le_of_ble_eq_true rfl, Nat.le_of_ble_eq_true rfl⟩ dX12_lean_12 (fun v ty' w' hp hk' => ?_)
    rcases hp with ⟨c24422, rfl, rfl⟩ | ⟨c24424, c24425, rfl, rfl⟩
    · skip
      have b24427l := Int32.le_toInt z3
      have b24427h := Int32.toInt_lt z3
      show GW κ 8 0 0 (wM r g I A L) 15 [(0, .ref (r 0)), (1, .int z1), (2, .int z2), (3, .int z3)] [.int 0]
      refine g_if_ne (tgt := 20) (a := 0) hk dX12_lean_15 (by decide) rfl (fun z9 => absurd z9 (show ¬ ((0 : Int) ≠ (0 : Int)) from by decide)) (fun _ => ?_)
      refine g_iconst (v := (-1)) hk dX12_lean_18 (by decide) ?_
      exact g_iret hk hR rfl ⟨I, A, L, (show Md [18, 19, 20, 23] I I from Md.rf), (show Md [18, 19, 20, 21, 23] A A from Md.rf), hIv, (-1), rfl, rfl⟩ dX12_lean_19
    · skip
      show GW κ 8 0 0 (wM r g I A L) 15 [(0, .ref (r 0)), (1, .int z1), (2, .int z2), (3, .int z3)] [.int 1]
      refine g_if_ne (tgt := 20) (a := 1) hk dX12_lean_15 (by decide) rfl (fun _ => ?_) (fun z9 => absurd (show (1 : Int) ≠ (0 : Int) from by decide) z9)
      refine g_aload_n hk dX12_lean_20 rfl ?_
      refine g_callV (n := 0) hk (j151_X12_copies l D zt r g I A L  hIv) (SP.same _) (fun _ h => h) (gi_V (List.mem_cons_of_mem _ (List.mem_append_left _ (List.mem_of_getElem? (i := 6) rfl))) (List.mem_cons_of_mem _ (List.mem_append_left _ (List.mem_of_getElem? (i := 7) rfl))) (List.mem_cons_of_mem _ (List.mem_append_left _ (List.mem_of_getElem? (i := 8) rfl))) (List.mem_cons_of_mem _ (List.mem_append_left _ (List.mem_of_getElem? (i := 3) rfl))) (gi_sub (fun w h => (List.mem_cons_of_mem _ (List.mem_append_right _ (List.mem_append_right _ (List.mem_append_right _ (List.mem_append_right _ (List.mem_append_left _ h))))))) zg_j151_X12_copies)) rfl rfl rfl (by decide +kernel) ⟨Nat.le_of_ble_eq_true rfl, Nat.le_of_ble_eq_true rfl⟩ 0 rfl rfl rfl rfl (Nat.le_of_ble_eq_true rfl) ⟨Nat.le_of_ble_eq_true rfl, Nat.le_of_ble_eq_true rfl⟩ dX12_lean_21 (fun v ty' w' hp hk' => ?_)
      obtain ⟨I24429, A24429, L24429, hI24429, hA24429, hV24429, r24430, r24431, rfl, rfl⟩ := hp
      have f24432 := IvM_s17_0 hIv
      have f24433 := IvM_s17_164 hIv
      show GW κ 8 0 0 (wM r g I24429 A24429 L24429) 24 [(0, .ref (r 0)), (1, .int z1), (2, .int z2), (3, .int z3)] []
      refine g_aload_n hk dX12_lean_24 rfl ?_
      refine g_iload_n hk dX12_lean_25 rfl ?_
      refine g_iload_n hk dX12_lean_26 rfl ?_
      refine g_callV (n := 2) hk (j169_X12_distanceOf l D zt r g I24429 A24429 L24429 z1 z2 hV24429 (by omega) (by omega) (by omega) (by omega) (by first | (rw [show (A24429 11 (5 * (I24429 15) + z1).toNatClampNeg) = (A 11 (5 * (I 15) + z1).toNatClampNeg) from (by rw [show I24429 15 = (I 15) from (hI24429 15 rfl)]; exact (congrFun (hA24429 11 rfl) _))] <;> omega) | omega) (by first | (rw [show (A24429 11 (5 * (I24429 15) + z1).toNatClampNeg) = (A 11 (5 * (I 15) + z1).toNatClampNeg) from (by rw [show I24429 15 = (I 15) from (hI24429 15 rfl)]; exact (congrFun (hA24429 11 rfl) _))] <;> omega) | omega)) (SP.same _) (fun _ h => h) (gi_V (List.mem_cons_of_mem _ (List.mem_append_left _ (List.mem_of_getElem? (i := 9) rfl))) (List.mem_cons_of_mem _ (List.mem_append_left _ (List.mem_of_getElem? (i := 10) rfl))) (List.mem_cons_of_mem _ (List.mem_append_left _ (List.mem_of_getElem? (i := 11) rfl))) (List.mem_cons_of_mem _ (List.mem_append_left _ (List.mem_of_getElem? (i := 3) rfl))) (gi_sub (fun w h => (List.mem_cons_of_mem _ (List.mem_append_right _ (List.mem_append_right _ (List.mem_append_right _ (List.mem_append_right _ (List.mem_append_right _ (List.mem_append_left _ h)))))))) zg_j169_X12_distanceOf)) rfl rfl rfl (by decide +kernel) ⟨Nat.le_of_ble_eq_true rfl, Nat.le_of_ble_eq_true rfl⟩ 0 rfl rfl rfl rfl (Nat.le_of_ble_eq_true rfl) ⟨Nat.le_of_ble_eq_true rfl, Nat.le_of_ble_eq_true rfl⟩ dX12_lean_27 (fun v ty' w' hp hk' => ?_)
      obtain ⟨I24435, A24435, L24435, hI24435, hA24435, hV24435, y24434, r24436, rfl, rfl⟩ := hp
      have f24437 := IvM_f18 hV24435
      show GW κ 8 0 0 (wM r g I24435 A24435 L24435) 30 [(0, .ref (r 0)), (1, .int z1), (2, .int z2), (3, .int z3)] [.int y24434]
      refine g_pop hk dX12_lean_30 rfl ?_
      refine g_aload_n hk dX12_lean_31 rfl ?_
      refine g_callV (n := 0) hk (j195_X12_fillsWay l D zt r g I24435 A24435 L24435  hV24435) (SP.same _) (fun _ h => h) (gi_V (List.mem_cons_of_mem _ (List.mem_append_left _ (List.mem_of_getElem? (i := 12) rfl))) (List.mem_cons_of_mem _ (List.mem_append_left _ (List.mem_of_getElem? (i := 13) rfl))) (List.mem_cons_of_mem _ (List.mem_append_left _ (List.mem_of_getElem? (i := 14) rfl))) (List.mem_cons_of_mem _ (List.mem_append_left _ (List.mem_of_getElem? (i := 3) rfl))) (gi_sub (fun w h => (List.mem_cons_of_mem _ (List.mem_append_right _ (List.mem_append_right _ (List.mem_append_right _ (List.mem_append_right _ (List.mem_append_right _ (List.mem_append_right _ (List.mem_append_left _ h))))))))) zg_j195_X12_fillsWay)) rfl rfl rfl (by decide +kernel) ⟨Nat.le_of_ble_eq_true rfl, Nat.le_of_ble_eq_true rfl⟩ 0 rfl rfl rfl rfl (Nat.le_of_ble_eq_true rfl) ⟨Nat.le_of_ble_eq_true rfl, Nat.le_of_ble_eq_true rfl⟩ dX12_lean_32 (fun v ty' w' hp hk' => ?_)
      obtain ⟨I24439, A24439, L24439, hI24439, hA24439, hV24439, rfl, rfl⟩ := hp
      show GW κ 8 0 0 (wM r g I24439 A24439 L24439) 35 [(0, .ref (r 0)), (1, .int z1), (2, .int z2), (3, .int z3)] []
      refine g_iconst (v := 0) hk dX12_lean_35 (by decide) ?_
      refine g_istore (lv' := [(4, .int 0), (0, .ref (r 0)), (1, .int z1), (2, .int z2), (3, .int z3)]) hk dX12_lean_36 (by decide) rfl ?_
      refine g_iconst (v := 0) hk dX12_lean_38 (by decide) ?_
      refine g_istore (lv' := [(5, .int 0), (4, .int 0), (0, .ref (r 0)), (1, .int z1), (2, .int z2), (3, .int z3)]) hk dX12_lean_39 (by decide) rfl ?_
      refine g_iconst (v := 0) hk dX12_lean_41 (by decide) ?_
      refine g_istore (lv' := [(6, .int 0), (5, .int 0), (4, .int 0), (0, .ref (r 0)), (1, .int z1), (2, .int z2), (3, .int z3)]) hk dX12_lean_42 (by decide) rfl ?_
      have lp24775 : ∀ (n24776 : Nat) (x24440 : Int32) (x24441 : Int32) (x24442 : Int32), (0 ≤ x24440.toInt) → (x24440.toInt ≤ 40) → (0 ≤ x24442.toInt) → (41 - x24440.toInt < (n24776 : Int)) → (0 < n24776) → GW κ 8 0 0 (wM r g I24439 A24439 L24439) 44 [(6, .int x24440), (5, .int x24441), (4, .int x24442), (0, .ref (r 0)), (1, .int z1), (2, .int z2), (3, .int z3)] [] := by
        intro n24776
        induction n24776 with
        | zero =>
          intro x24440 x24441 x24442 h24772 h24773 h24774 m24777 m24777z
          exact absurd m24777z (Nat.lt_irrefl 0)
        | succ n24776 ih24778 =>
          intro x24440 x24441 x24442 h24772 h24773 h24774 m24777 m24777z
          refine g_iload hk dX12_lean_44 rfl ?_
          refine g_aload_n hk dX12_lean_46 rfl ?_
          refine gM_i23 (v := (I24439 23)) hk hin12 (List.mem_cons_of_mem _ (List.mem_append_left _ (List.mem_of_getElem? (i := 15) rfl))) dX12_lean_47 rfl ?_
          have f24779 := IvM_f23 hV24439
          refine g_icmp_ge (tgt := 133) (a := x24440.toInt) (b := (I24439 23).toInt) hk dX12_lean_50 (by decide) rfl rfl (fun c24780 => ?_) (fun c24780 => ?_)
          · skip
            refine g_iload_n hk dX12_lean_133 rfl ?_
            refine g_if_ne (tgt := 142) (a := z3.toInt) hk dX12_lean_134 (by decide) rfl (fun c24781 => ?_) (fun c24781 => ?_)
            · skip
              refine g_iload hk dX12_lean_142 rfl ?_
              have b24782l := Int32.le_toInt x24441
              have b24782h := Int32.toInt_lt x24441
              exact g_iret hk hR rfl ⟨I24439, A24439, L24439, (show Md [18, 19, 20, 23] I I24439 from (Md.tr (Md.tr (Md.tr Md.rf hI24429 rfl) hI24435 rfl) hI24439 rfl)), (show Md [18, 19, 20, 21, 23] A A24439 from (Md.tr (Md.tr (Md.tr Md.rf hA24429 rfl) hA24435 rfl) hA24439 rfl)), hV24439, x24441, rfl, rfl⟩ dX12_lean_144
            · skip
              refine g_iload hk dX12_lean_137 rfl ?_
              refine g_goto (tgt := 144) hk dX12_lean_139 (by decide) ?_
              have b24783l := Int32.le_toInt x24442
              have b24783h := Int32.toInt_lt x24442
              exact g_iret hk hR rfl ⟨I24439, A24439, L24439, (show Md [18, 19, 20, 23] I I24439 from (Md.tr (Md.tr (Md.tr Md.rf hI24429 rfl) hI24435 rfl) hI24439 rfl)), (show Md [18, 19, 20, 21, 23] A A24439 from (Md.tr (Md.tr (Md.tr Md.rf hA24429 rfl) hA24435 rfl) hA24439 rfl)), hV24439, x24442, rfl, rfl⟩ dX12_lean_144
          · skip
            refine g_aload_n hk dX12_lean_53 rfl ?_
            refine gM_r0_46 hk hin12 (List.mem_cons_of_mem _ (List.mem_append_left _ (List.mem_of_getElem? (i := 16) rfl))) dX12_lean_54 ?_
            refine g_iload hk dX12_lean_57 rfl ?_
            refine lM_23 (v := (A24439 23 x24440.toNatClampNeg)) hk (vp_in_iff.mpr ⟨by omega, by omega⟩) rfl dX12_lean_59 ?_
            refine g_bipush (v := 100) hk dX12_lean_60 (by decide) ?_
            refine g_idiv hk dX12_lean_62 (by decide) ?_
            refine g_topi (fun y24784 ey24784 => ?_)
            refine g_aload_n hk dX12_lean_63 rfl ?_
            refine gM_r0_46 hk hin12 (List.mem_cons_of_mem _ (List.mem_append_left _ (List.mem_of_getElem? (i := 16) rfl))) dX12_lean_64 ?_
            refine g_iload hk dX12_lean_67 rfl ?_
            refine lM_23 (v := (A24439 23 x24440.toNatClampNeg)) hk (vp_in_iff.mpr ⟨by omega, by omega⟩) rfl dX12_lean_69 ?_
            refine g_bipush (v := 100) hk dX12_lean_70 (by decide) ?_
            refine g_irem hk dX12_lean_72 (by decide) ?_
            refine g_topi (fun y24785 ey24785 => ?_)
            have b24786l := Int32.le_toInt y24784
            have b24786h := Int32.toInt_lt y24784
            have b24787l := Int32.le_toInt y24785
            have b24787h := Int32.toInt_lt y24785
            refine g_isub hk dX12_lean_73 ?_
            refine g_topi (fun y24788 ey24788 => ?_)
            have hy24788 := i32_sub0 ey24788
            refine g_istore (lv' := [(7, .int y24788), (6, .int x24440), (5, .int x24441), (4, .int x24442), (0, .ref (r 0)), (1, .int z1), (2, .int z2), (3, .int z3)]) hk dX12_lean_74 (by decide) rfl ?_
            refine g_iload hk dX12_lean_76 rfl ?_
            have b24789l := Int32.le_toInt y24788
            have b24789h := Int32.toInt_lt y24788
            refine g_if_ge (tgt := 86) (a := y24788.toInt) hk dX12_lean_78 (by decide) rfl (fun c24790 => ?_) (fun c24790 => ?_)
            · skip
              refine g_iload hk dX12_lean_86 rfl ?_
              refine g_iload hk dX12_lean_88 rfl ?_
              have b24791l := Int32.le_toInt x24442
              have b24791h := Int32.toInt_lt x24442
              refine g_icmp_le (tgt := 97) (a := y24788.toInt) (b := x24442.toInt) hk dX12_lean_90 (by decide) rfl rfl (fun c24792 => ?_) (fun c24792 => ?_)
              · skip
                refine g_iload hk dX12_lean_97 rfl ?_
                refine g_if_le (tgt := 127) (a := x24440.toInt) hk dX12_lean_99 (by decide) rfl (fun c24793 => ?_) (fun c24793 => ?_)
                · skip
                  obtain ⟨y24794, ey24794⟩ : ∃ y : Int32, y = x24440 + Int32.ofInt 1 := ⟨_, rfl⟩
                  have hy24794 : y24794.toInt = x24440.toInt + 1 := i32_add ey24794 rfl (by decide) (by omega) (by omega)
                  refine g_iinc (v := y24794) (lv' := [(6, .int y24794), (7, .int y24788), (5, .int x24441), (4, .int x24442), (0, .ref (r 0)), (1, .int z1), (2, .int z2), (3, .int z3)]) hk 1 dX12_lean_127 rfl ey24794.symm (by decide) rfl ?_
                  refine g_goto (tgt := 44) hk dX12_lean_130 (by decide) ?_
                  have b24795l := Int32.le_toInt x24441
                  have b24795h := Int32.toInt_lt x24441
                  exact g_lv (List.forall_mem_cons.mpr ⟨List.mem_of_getElem? (i := 0) rfl, (List.forall_mem_cons.mpr ⟨List.mem_of_getElem? (i := 2) rfl, (List.forall_mem_cons.mpr ⟨List.mem_of_getElem? (i := 3) rfl, (List.forall_mem_cons.mpr ⟨List.mem_of_getElem? (i := 4) rfl, (List.forall_mem_cons.mpr ⟨List.mem_of_getElem? (i := 5) rfl, (List.forall_mem_cons.mpr ⟨List.mem_of_getElem? (i := 6) rfl, (List.forall_mem_cons.mpr ⟨List.mem_of_getElem? (i := 7) rfl, (fun _ h => absurd h List.not_mem_nil)⟩)⟩)⟩)⟩)⟩)⟩)⟩) (ih24778 y24794 x24441 x24442 (by omega) (by omega) (by omega) (by omega) (by omega))
                · skip
                  refine g_aload_n hk dX12_lean_102 rfl ?_
                  refine gM_r0_46 hk hin12 (List.mem_cons_of_mem _ (List.mem_append_left _ (List.mem_of_getElem? (i := 16) rfl))) dX12_lean_103 ?_
                  refine g_iload hk dX12_lean_106 rfl ?_
                  refine g_iconst (v := 1) hk dX12_lean_108 (by decide) ?_
                  refine g_isub hk dX12_lean_109 ?_
                  refine g_topi (fun y24796 ey24796 => ?_)
                  have hy24796 : y24796.toInt = x24440.toInt - 1 := i32_sub ey24796 rfl rfl (by omega) (by omega)
                  refine lM_23 (v := (A24439 23 y24796.toNatClampNeg)) hk (vp_in_iff.mpr ⟨by omega, by omega⟩) rfl dX12_lean_110 ?_
                  refine g_aload_n hk dX12_lean_111 rfl ?_
                  refine gM_r0_46 hk hin12 (List.mem_cons_of_mem _ (List.mem_append_left _ (List.mem_of_getElem? (i := 16) rfl))) dX12_lean_112 ?_
                  refine g_iload hk dX12_lean_115 rfl ?_
                  refine lM_23 (v := (A24439 23 x24440.toNatClampNeg)) hk (vp_in_iff.mpr ⟨by omega, by omega⟩) rfl dX12_lean_117 ?_
                  have b24797l := Int32.le_toInt (A24439 23 y24796.toNatClampNeg)
                  have b24797h := Int32.toInt_lt (A24439 23 y24796.toNatClampNeg)
                  have b24798l := Int32.le_toInt (A24439 23 x24440.toNatClampNeg)
                  have b24798h := Int32.toInt_lt (A24439 23 x24440.toNatClampNeg)
                  refine g_isub hk dX12_lean_118 ?_
                  refine g_topi (fun y24799 ey24799 => ?_)
                  have hy24799 := i32_sub0 ey24799
                  refine g_bipush (v := 101) hk dX12_lean_119 (by decide) ?_
                  have b24800l := Int32.le_toInt y24799
                  have b24800h := Int32.toInt_lt y24799
                  refine g_icmp_ne (tgt := 127) (a := y24799.toInt) (b := 101) hk dX12_lean_121 (by decide) rfl rfl (fun c24801 => ?_) (fun c24801 => ?_)
                  · skip
                    obtain ⟨y24802, ey24802⟩ : ∃ y : Int32, y = x24440 + Int32.ofInt 1 := ⟨_, rfl⟩
                    have hy24802 : y24802.toInt = x24440.toInt + 1 := i32_add ey24802 rfl (by decide) (by omega) (by omega)
                    refine g_iinc (v := y24802) (lv' := [(6, .int y24802), (7, .int y24788), (5, .int x24441), (4, .int x24442), (0, .ref (r 0)), (1, .int z1), (2, .int z2), (3, .int z3)]) hk 1 dX12_lean_127 rfl ey24802.symm (by decide) rfl ?_
                    refine g_goto (tgt := 44) hk dX12_lean_130 (by decide) ?_
                    have b24803l := Int32.le_toInt x24441
                    have b24803h := Int32.toInt_lt x24441
                    exact g_lv (List.forall_mem_cons.mpr ⟨List.mem_of_getElem? (i := 0) rfl, (List.forall_mem_cons.mpr ⟨List.mem_of_getElem? (i := 2) rfl, (List.forall_mem_cons.mpr ⟨List.mem_of_getElem? (i := 3) rfl, (List.forall_mem_cons.mpr ⟨List.mem_of_getElem? (i := 4) rfl, (List.forall_mem_cons.mpr ⟨List.mem_of_getElem? (i := 5) rfl, (List.forall_mem_cons.mpr ⟨List.mem_of_getElem? (i := 6) rfl, (List.forall_mem_cons.mpr ⟨List.mem_of_getElem? (i := 7) rfl, (fun _ h => absurd h List.not_mem_nil)⟩)⟩)⟩)⟩)⟩)⟩)⟩) (ih24778 y24802 x24441 x24442 (by omega) (by omega) (by omega) (by omega) (by omega))
                  · skip
                    have b24804l := Int32.le_toInt x24441
                    have b24804h := Int32.toInt_lt x24441
                    obtain ⟨y24805, ey24805⟩ : ∃ y : Int32, y = x24441 + Int32.ofInt 1 := ⟨_, rfl⟩
                    refine g_iinc (v := y24805) (lv' := [(5, .int y24805), (7, .int y24788), (6, .int x24440), (4, .int x24442), (0, .ref (r 0)), (1, .int z1), (2, .int z2), (3, .int z3)]) hk 2 dX12_lean_124 rfl ey24805.symm (by decide) rfl ?_
                    obtain ⟨y24806, ey24806⟩ : ∃ y : Int32, y = x24440 + Int32.ofInt 1 := ⟨_, rfl⟩
                    have hy24806 : y24806.toInt = x24440.toInt + 1 := i32_add ey24806 rfl (by decide) (by omega) (by omega)
                    refine g_iinc (v := y24806) (lv' := [(6, .int y24806), (5, .int y24805), (7, .int y24788), (4, .int x24442), (0, .ref (r 0)), (1, .int z1), (2, .int z2), (3, .int z3)]) hk 2 dX12_lean_127 rfl ey24806.symm (by decide) rfl ?_
                    refine g_goto (tgt := 44) hk dX12_lean_130 (by decide) ?_
                    have b24807l := Int32.le_toInt y24805
                    have b24807h := Int32.toInt_lt y24805
                    exact g_lv (List.forall_mem_cons.mpr ⟨List.mem_of_getElem? (i := 0) rfl, (List.forall_mem_cons.mpr ⟨List.mem_of_getElem? (i := 1) rfl, (List.forall_mem_cons.mpr ⟨List.mem_of_getElem? (i := 3) rfl, (List.forall_mem_cons.mpr ⟨List.mem_of_getElem? (i := 4) rfl, (List.forall_mem_cons.mpr ⟨List.mem_of_getElem? (i := 5) rfl, (List.forall_mem_cons.mpr ⟨List.mem_of_getElem? (i := 6) rfl, (List.forall_mem_cons.mpr ⟨List.mem_of_getElem? (i := 7) rfl, (fun _ h => absurd h List.not_mem_nil)⟩)⟩)⟩)⟩)⟩)⟩)⟩) (ih24778 y24806 y24805 x24442 (by omega) (by omega) (by omega) (by omega) (by omega))
              · skip
                refine g_iload hk dX12_lean_93 rfl ?_
                refine g_istore (lv' := [(4, .int y24788), (7, .int y24788), (6, .int x24440), (5, .int x24441), (0, .ref (r 0)), (1, .int z1), (2, .int z2), (3, .int z3)]) hk dX12_lean_95 (by decide) rfl ?_
                refine g_iload hk dX12_lean_97 rfl ?_
                refine g_if_le (tgt := 127) (a := x24440.toInt) hk dX12_lean_99 (by decide) rfl (fun c24808 => ?_) (fun c24808 => ?_)
                · skip
                  obtain ⟨y24809, ey24809⟩ : ∃ y : Int32, y = x24440 + Int32.ofInt 1 := ⟨_, rfl⟩
                  have hy24809 : y24809.toInt = x24440.toInt + 1 := i32_add ey24809 rfl (by decide) (by omega) (by omega)
                  refine g_iinc (v := y24809) (lv' := [(6, .int y24809), (4, .int y24788), (7, .int y24788), (5, .int x24441), (0, .ref (r 0)), (1, .int z1), (2, .int z2), (3, .int z3)]) hk 2 dX12_lean_127 rfl ey24809.symm (by decide) rfl ?_
                  refine g_goto (tgt := 44) hk dX12_lean_130 (by decide) ?_
                  have b24810l := Int32.le_toInt x24441
                  have b24810h := Int32.toInt_lt x24441
                  exact g_lv (List.forall_mem_cons.mpr ⟨List.mem_of_getElem? (i := 0) rfl, (List.forall_mem_cons.mpr ⟨List.mem_of_getElem? (i := 3) rfl, (List.forall_mem_cons.mpr ⟨List.mem_of_getElem? (i := 1) rfl, (List.forall_mem_cons.mpr ⟨List.mem_of_getElem? (i := 4) rfl, (List.forall_mem_cons.mpr ⟨List.mem_of_getElem? (i := 5) rfl, (List.forall_mem_cons.mpr ⟨List.mem_of_getElem? (i := 6) rfl, (List.forall_mem_cons.mpr ⟨List.mem_of_getElem? (i := 7) rfl, (fun _ h => absurd h List.not_mem_nil)⟩)⟩)⟩)⟩)⟩)⟩)⟩) (ih24778 y24809 x24441 y24788 (by omega) (by omega) (by omega) (by omega) (by omega))
                · skip
                  refine g_aload_n hk dX12_lean_102 rfl ?_
                  refine gM_r0_46 hk hin12 (List.mem_cons_of_mem _ (List.mem_append_left _ (List.mem_of_getElem? (i := 16) rfl))) dX12_lean_103 ?_
                  refine g_iload hk dX12_lean_106 rfl ?_
                  refine g_iconst (v := 1) hk dX12_lean_108 (by decide) ?_
                  refine g_isub hk dX12_lean_109 ?_
                  refine g_topi (fun y24811 ey24811 => ?_)
                  have hy24811 : y24811.toInt = x24440.toInt - 1 := i32_sub ey24811 rfl rfl (by omega) (by omega)
                  refine lM_23 (v := (A24439 23 y24811.toNatClampNeg)) hk (vp_in_iff.mpr ⟨by omega, by omega⟩) rfl dX12_lean_110 ?_
                  refine g_aload_n hk dX12_lean_111 rfl ?_
                  refine gM_r0_46 hk hin12 (List.mem_cons_of_mem _ (List.mem_append_left _ (List.mem_of_getElem? (i := 16) rfl))) dX12_lean_112 ?_
                  refine g_iload hk dX12_lean_115 rfl ?_
                  refine lM_23 (v := (A24439 23 x24440.toNatClampNeg)) hk (vp_in_iff.mpr ⟨by omega, by omega⟩) rfl dX12_lean_117 ?_
                  have b24812l := Int32.le_toInt (A24439 23 y24811.toNatClampNeg)
                  have b24812h := Int32.toInt_lt (A24439 23 y24811.toNatClampNeg)
                  have b24813l := Int32.le_toInt (A24439 23 x24440.toNatClampNeg)
                  have b24813h := Int32.toInt_lt (A24439 23 x24440.toNatClampNeg)
                  refine g_isub hk dX12_lean_118 ?_
                  refine g_topi (fun y24814 ey24814 => ?_)
                  have hy24814 := i32_sub0 ey24814
                  refine g_bipush (v := 101) hk dX12_lean_119 (by decide) ?_
                  have b24815l := Int32.le_toInt y24814
                  have b24815h := Int32.toInt_lt y24814
                  refine g_icmp_ne (tgt := 127) (a := y24814.toInt) (b := 101) hk dX12_lean_121 (by decide) rfl rfl (fun c24816 => ?_) (fun c24816 => ?_)
                  · skip
                    obtain ⟨y24817, ey24817⟩ : ∃ y : Int32, y = x24440 + Int32.ofInt 1 := ⟨_, rfl⟩
                    have hy24817 : y24817.toInt = x24440.toInt + 1 := i32_add ey24817 rfl (by decide) (by omega) (by omega)
                    refine g_iinc (v := y24817) (lv' := [(6, .int y24817), (4, .int y24788), (7, .int y24788), (5, .int x24441), (0, .ref (r 0)), (1, .int z1), (2, .int z2), (3, .int z3)]) hk 2 dX12_lean_127 rfl ey24817.symm (by decide) rfl ?_
                    refine g_goto (tgt := 44) hk dX12_lean_130 (by decide) ?_
                    have b24818l := Int32.le_toInt x24441
                    have b24818h := Int32.toInt_lt x24441
                    exact g_lv (List.forall_mem_cons.mpr ⟨List.mem_of_getElem? (i := 0) rfl, (List.forall_mem_cons.mpr ⟨List.mem_of_getElem? (i := 3) rfl, (List.forall_mem_cons.mpr ⟨List.mem_of_getElem? (i := 1) rfl, (List.forall_mem_cons.mpr ⟨List.mem_of_getElem? (i := 4) rfl, (List.forall_mem_cons.mpr ⟨List.mem_of_getElem? (i := 5) rfl, (List.forall_mem_cons.mpr ⟨List.mem_of_getElem? (i := 6) rfl, (List.forall_mem_cons.mpr ⟨List.mem_of_getElem? (i := 7) rfl, (fun _ h => absurd h List.not_mem_nil)⟩)⟩)⟩)⟩)⟩)⟩)⟩) (ih24778 y24817 x24441 y24788 (by omega) (by omega) (by omega) (by omega) (by omega))
                  · skip
                    have b24819l := Int32.le_toInt x24441
                    have b24819h := Int32.toInt_lt x24441
                    obtain ⟨y24820, ey24820⟩ : ∃ y : Int32, y = x24441 + Int32.ofInt 1 := ⟨_, rfl⟩
                    refine g_iinc (v := y24820) (lv' := [(5, .int y24820), (4, .int y24788), (7, .int y24788), (6, .int x24440), (0, .ref (r 0)), (1, .int z1), (2, .int z2), (3, .int z3)]) hk 3 dX12_lean_124 rfl ey24820.symm (by decide) rfl ?_
                    obtain ⟨y24821, ey24821⟩ : ∃ y : Int32, y = x24440 + Int32.ofInt 1 := ⟨_, rfl⟩
                    have hy24821 : y24821.toInt = x24440.toInt + 1 := i32_add ey24821 rfl (by decide) (by omega) (by omega)
                    refine g_iinc (v := y24821) (lv' := [(6, .int y24821), (5, .int y24820), (4, .int y24788), (7, .int y24788), (0, .ref (r 0)), (1, .int z1), (2, .int z2), (3, .int z3)]) hk 3 dX12_lean_127 rfl ey24821.symm (by decide) rfl ?_
                    refine g_goto (tgt := 44) hk dX12_lean_130 (by decide) ?_
                    have b24822l := Int32.le_toInt y24820
                    have b24822h := Int32.toInt_lt y24820
                    exact g_lv (List.forall_mem_cons.mpr ⟨List.mem_of_getElem? (i := 0) rfl, (List.forall_mem_cons.mpr ⟨List.mem_of_getElem? (i := 1) rfl, (List.forall_mem_cons.mpr ⟨List.mem_of_getElem? (i := 2) rfl, (List.forall_mem_cons.mpr ⟨List.mem_of_getElem? (i := 4) rfl, (List.forall_mem_cons.mpr ⟨List.mem_of_getElem? (i := 5) rfl, (List.forall_mem_cons.mpr ⟨List.mem_of_getElem? (i := 6) rfl, (List.forall_mem_cons.mpr ⟨List.mem_of_getElem? (i := 7) rfl, (fun _ h => absurd h List.not_mem_nil)⟩)⟩)⟩)⟩)⟩)⟩)⟩) (ih24778 y24821 y24820 y24788 (by omega) (by omega) (by omega) (by omega) (by omega))
            · skip
              refine g_iload hk dX12_lean_81 rfl ?_
              refine g_ineg hk dX12_lean_83 ?_
              refine g_topi (fun y24823 ey24823 => ?_)
              refine g_istore (lv' := [(7, .int y24823), (6, .int x24440), (5, .int x24441), (4, .int x24442), (0, .ref (r 0)), (1, .int z1), (2, .int z2), (3, .int z3)]) hk dX12_lean_84 (by decide) rfl ?_
              refine g_iload hk dX12_lean_86 rfl ?_
              refine g_iload hk dX12_lean_88 rfl ?_
              have b24824l := Int32.le_toInt y24823
              have b24824h := Int32.toInt_lt y24823
              have b24825l := Int32.le_toInt x24442
              have b24825h := Int32.toInt_lt x24442
              refine g_icmp_le (tgt := 97) (a := y24823.toInt) (b := x24442.toInt) hk dX12_lean_90 (by decide) rfl rfl (fun c24826 => ?_) (fun c24826 => ?_)
              · skip
                refine g_iload hk dX12_lean_97 rfl ?_
                refine g_if_le (tgt := 127) (a := x24440.toInt) hk dX12_lean_99 (by decide) rfl (fun c24827 => ?_) (fun c24827 => ?_)
                · skip
                  obtain ⟨y24828, ey24828⟩ : ∃ y : Int32, y = x24440 + Int32.ofInt 1 := ⟨_, rfl⟩
                  have hy24828 : y24828.toInt = x24440.toInt + 1 := i32_add ey24828 rfl (by decide) (by omega) (by omega)
                  refine g_iinc (v := y24828) (lv' := [(6, .int y24828), (7, .int y24823), (5, .int x24441), (4, .int x24442), (0, .ref (r 0)), (1, .int z1), (2, .int z2), (3, .int z3)]) hk 1 dX12_lean_127 rfl ey24828.symm (by decide) rfl ?_
                  refine g_goto (tgt := 44) hk dX12_lean_130 (by decide) ?_
                  have b24829l := Int32.le_toInt x24441
                  have b24829h := Int32.toInt_lt x24441
                  exact g_lv (List.forall_mem_cons.mpr ⟨List.mem_of_getElem? (i := 0) rfl, (List.forall_mem_cons.mpr ⟨List.mem_of_getElem? (i := 2) rfl, (List.forall_mem_cons.mpr ⟨List.mem_of_getElem? (i := 3) rfl, (List.forall_mem_cons.mpr ⟨List.mem_of_getElem? (i := 4) rfl, (List.forall_mem_cons.mpr ⟨List.mem_of_getElem? (i := 5) rfl, (List.forall_mem_cons.mpr ⟨List.mem_of_getElem? (i := 6) rfl, (List.forall_mem_cons.mpr ⟨List.mem_of_getElem? (i := 7) rfl, (fun _ h => absurd h List.not_mem_nil)⟩)⟩)⟩)⟩)⟩)⟩)⟩) (ih24778 y24828 x24441 x24442 (by omega) (by omega) (by omega) (by omega) (by omega))
                · skip
                  refine g_aload_n hk dX12_lean_102 rfl ?_
                  refine gM_r0_46 hk hin12 (List.mem_cons_of_mem _ (List.mem_append_left _ (List.mem_of_getElem? (i := 16) rfl))) dX12_lean_103 ?_
                  refine g_iload hk dX12_lean_106 rfl ?_
                  refine g_iconst (v := 1) hk dX12_lean_108 (by decide) ?_
                  refine g_isub hk dX12_lean_109 ?_
                  refine g_topi (fun y24830 ey24830 => ?_)
                  have hy24830 : y24830.toInt = x24440.toInt - 1 := i32_sub ey24830 rfl rfl (by omega) (by omega)
                  refine lM_23 (v := (A24439 23 y24830.toNatClampNeg)) hk (vp_in_iff.mpr ⟨by omega, by omega⟩) rfl dX12_lean_110 ?_
                  refine g_aload_n hk dX12_lean_111 rfl ?_
                  refine gM_r0_46 hk hin12 (List.mem_cons_of_mem _ (List.mem_append_left _ (List.mem_of_getElem? (i := 16) rfl))) dX12_lean_112 ?_
                  refine g_iload hk dX12_lean_115 rfl ?_
                  refine lM_23 (v := (A24439 23 x24440.toNatClampNeg)) hk (vp_in_iff.mpr ⟨by omega, by omega⟩) rfl dX12_lean_117 ?_
                  have b24831l := Int32.le_toInt (A24439 23 y24830.toNatClampNeg)
                  have b24831h := Int32.toInt_lt (A24439 23 y24830.toNatClampNeg)
                  have b24832l := Int32.le_toInt (A24439 23 x24440.toNatClampNeg)
                  have b24832h := Int32.toInt_lt (A24439 23 x24440.toNatClampNeg)
                  refine g_isub hk dX12_lean_118 ?_
                  refine g_topi (fun y24833 ey24833 => ?_)
                  have hy24833 := i32_sub0 ey24833
                  refine g_bipush (v := 101) hk dX12_lean_119 (by decide) ?_
                  have b24834l := Int32.le_toInt y24833
                  have b24834h := Int32.toInt_lt y24833
                  refine g_icmp_ne (tgt := 127) (a := y24833.toInt) (b := 101) hk dX12_lean_121 (by decide) rfl rfl (fun c24835 => ?_) (fun c24835 => ?_)
                  · skip
                    obtain ⟨y24836, ey24836⟩ : ∃ y : Int32, y = x24440 + Int32.ofInt 1 := ⟨_, rfl⟩
                    have hy24836 : y24836.toInt = x24440.toInt + 1 := i32_add ey24836 rfl (by decide) (by omega) (by omega)
                    refine g_iinc (v := y24836) (lv' := [(6, .int y24836), (7, .int y24823), (5, .int x24441), (4, .int x24442), (0, .ref (r 0)), (1, .int z1), (2, .int z2), (3, .int z3)]) hk 1 dX12_lean_127 rfl ey24836.symm (by decide) rfl ?_
                    refine g_goto (tgt := 44) hk dX12_lean_130 (by decide) ?_
                    have b24837l := Int32.le_toInt x24441
                    have b24837h := Int32.toInt_lt x24441
                    exact g_lv (List.forall_mem_cons.mpr ⟨List.mem_of_getElem? (i := 0) rfl, (List.forall_mem_cons.mpr ⟨List.mem_of_getElem? (i := 2) rfl, (List.forall_mem_cons.mpr ⟨List.mem_of_getElem? (i := 3) rfl, (List.forall_mem_cons.mpr ⟨List.mem_of_getElem? (i := 4) rfl, (List.forall_mem_cons.mpr ⟨List.mem_of_getElem? (i := 5) rfl, (List.forall_mem_cons.mpr ⟨List.mem_of_getElem? (i := 6) rfl, (List.forall_mem_cons.mpr ⟨List.mem_of_getElem? (i := 7) rfl, (fun _ h => absurd h List.not_mem_nil)⟩)⟩)⟩)⟩)⟩)⟩)⟩) (ih24778 y24836 x24441 x24442 (by omega) (by omega) (by omega) (by omega) (by omega))
                  · skip
                    have b24838l := Int32.le_toInt x24441
                    have b24838h := Int32.toInt_lt x24441
                    obtain ⟨y24839, ey24839⟩ : ∃ y : Int32, y = x24441 + Int32.ofInt 1 := ⟨_, rfl⟩
                    refine g_iinc (v := y24839) (lv' := [(5, .int y24839), (7, .int y24823), (6, .int x24440), (4, .int x24442), (0, .ref (r 0)), (1, .int z1), (2, .int z2), (3, .int z3)]) hk 2 dX12_lean_124 rfl ey24839.symm (by decide) rfl ?_
                    obtain ⟨y24840, ey24840⟩ : ∃ y : Int32, y = x24440 + Int32.ofInt 1 := ⟨_, rfl⟩
                    have hy24840 : y24840.toInt = x24440.toInt + 1 := i32_add ey24840 rfl (by decide) (by omega) (by omega)
                    refine g_iinc (v := y24840) (lv' := [(6, .int y24840), (5, .int y24839), (7, .int y24823), (4, .int x24442), (0, .ref (r 0)), (1, .int z1), (2, .int z2), (3, .int z3)]) hk 2 dX12_lean_127 rfl ey24840.symm (by decide) rfl ?_
                    refine g_goto (tgt := 44) hk dX12_lean_130 (by decide) ?_
                    have b24841l := Int32.le_toInt y24839
                    have b24841h := Int32.toInt_lt y24839
                    exact g_lv (List.forall_mem_cons.mpr ⟨List.mem_of_getElem? (i := 0) rfl, (List.forall_mem_cons.mpr ⟨List.mem_of_getElem? (i := 1) rfl, (List.forall_mem_cons.mpr ⟨List.mem_of_getElem? (i := 3) rfl, (List.forall_mem_cons.mpr ⟨List.mem_of_getElem? (i := 4) rfl, (List.forall_mem_cons.mpr ⟨List.mem_of_getElem? (i := 5) rfl, (List.forall_mem_cons.mpr ⟨List.mem_of_getElem? (i := 6) rfl, (List.forall_mem_cons.mpr ⟨List.mem_of_getElem? (i := 7) rfl, (fun _ h => absurd h List.not_mem_nil)⟩)⟩)⟩)⟩)⟩)⟩)⟩) (ih24778 y24840 y24839 x24442 (by omega) (by omega) (by omega) (by omega) (by omega))
              · skip
                refine g_iload hk dX12_lean_93 rfl ?_
                refine g_istore (lv' := [(4, .int y24823), (7, .int y24823), (6, .int x24440), (5, .int x24441), (0, .ref (r 0)), (1, .int z1), (2, .int z2), (3, .int z3)]) hk dX12_lean_95 (by decide) rfl ?_
                refine g_iload hk dX12_lean_97 rfl ?_
                refine g_if_le (tgt := 127) (a := x24440.toInt) hk dX12_lean_99 (by decide) rfl (fun c24842 => ?_) (fun c24842 => ?_)
                · skip
                  obtain ⟨y24843, ey24843⟩ : ∃ y : Int32, y = x24440 + Int32.ofInt 1 := ⟨_, rfl⟩
                  have hy24843 : y24843.toInt = x24440.toInt + 1 := i32_add ey24843 rfl (by decide) (by omega) (by omega)
                  refine g_iinc (v := y24843) (lv' := [(6, .int y24843), (4, .int y24823), (7, .int y24823), (5, .int x24441), (0, .ref (r 0)), (1, .int z1), (2, .int z2), (3, .int z3)]) hk 2 dX12_lean_127 rfl ey24843.symm (by decide) rfl ?_
                  refine g_goto (tgt := 44) hk dX12_lean_130 (by decide) ?_
                  have b24844l := Int32.le_toInt x24441
                  have b24844h := Int32.toInt_lt x24441
                  exact g_lv (List.forall_mem_cons.mpr ⟨List.mem_of_getElem? (i := 0) rfl, (List.forall_mem_cons.mpr ⟨List.mem_of_getElem? (i := 3) rfl, (List.forall_mem_cons.mpr ⟨List.mem_of_getElem? (i := 1) rfl, (List.forall_mem_cons.mpr ⟨List.mem_of_getElem? (i := 4) rfl, (List.forall_mem_cons.mpr ⟨List.mem_of_getElem? (i := 5) rfl, (List.forall_mem_cons.mpr ⟨List.mem_of_getElem? (i := 6) rfl, (List.forall_mem_cons.mpr ⟨List.mem_of_getElem? (i := 7) rfl, (fun _ h => absurd h List.not_mem_nil)⟩)⟩)⟩)⟩)⟩)⟩)⟩) (ih24778 y24843 x24441 y24823 (by omega) (by omega) (by omega) (by omega) (by omega))
                · skip
                  refine g_aload_n hk dX12_lean_102 rfl ?_
                  refine gM_r0_46 hk hin12 (List.mem_cons_of_mem _ (List.mem_append_left _ (List.mem_of_getElem? (i := 16) rfl))) dX12_lean_103 ?_
                  refine g_iload hk dX12_lean_106 rfl ?_
                  refine g_iconst (v := 1) hk dX12_lean_108 (by decide) ?_
                  refine g_isub hk dX12_lean_109 ?_
                  refine g_topi (fun y24845 ey24845 => ?_)
                  have hy24845 : y24845.toInt = x24440.toInt - 1 := i32_sub ey24845 rfl rfl (by omega) (by omega)
                  refine lM_23 (v := (A24439 23 y24845.toNatClampNeg)) hk (vp_in_iff.mpr ⟨by omega, by omega⟩) rfl dX12_lean_110 ?_
                  refine g_aload_n hk dX12_lean_111 rfl ?_
                  refine gM_r0_46 hk hin12 (List.mem_cons_of_mem _ (List.mem_append_left _ (List.mem_of_getElem? (i := 16) rfl))) dX12_lean_112 ?_
                  refine g_iload hk dX12_lean_115 rfl ?_
                  refine lM_23 (v := (A24439 23 x24440.toNatClampNeg)) hk (vp_in_iff.mpr ⟨by omega, by omega⟩) rfl dX12_lean_117 ?_
                  have b24846l := Int32.le_toInt (A24439 23 y24845.toNatClampNeg)
                  have b24846h := Int32.toInt_lt (A24439 23 y24845.toNatClampNeg)
                  have b24847l := Int32.le_toInt (A24439 23 x24440.toNatClampNeg)
                  have b24847h := Int32.toInt_lt (A24439 23 x24440.toNatClampNeg)
                  refine g_isub hk dX12_lean_118 ?_
                  refine g_topi (fun y24848 ey24848 => ?_)
                  have hy24848 := i32_sub0 ey24848
                  refine g_bipush (v := 101) hk dX12_lean_119 (by decide) ?_
                  have b24849l := Int32.le_toInt y24848
                  have b24849h := Int32.toInt_lt y24848
                  refine g_icmp_ne (tgt := 127) (a := y24848.toInt) (b := 101) hk dX12_lean_121 (by decide) rfl rfl (fun c24850 => ?_) (fun c24850 => ?_)
                  · skip
                    obtain ⟨y24851, ey24851⟩ : ∃ y : Int32, y = x24440 + Int32.ofInt 1 := ⟨_, rfl⟩
                    have hy24851 : y24851.toInt = x24440.toInt + 1 := i32_add ey24851 rfl (by decide) (by omega) (by omega)
                    refine g_iinc (v := y24851) (lv' := [(6, .int y24851), (4, .int y24823), (7, .int y24823), (5, .int x24441), (0, .ref (r 0)), (1, .int z1), (2, .int z2), (3, .int z3)]) hk 2 dX12_lean_127 rfl ey24851.symm (by decide) rfl ?_
                    refine g_goto (tgt := 44) hk dX12_lean_130 (by decide) ?_
                    have b24852l := Int32.le_toInt x24441
                    have b24852h := Int32.toInt_lt x24441
                    exact g_lv (List.forall_mem_cons.mpr ⟨List.mem_of_getElem? (i := 0) rfl, (List.forall_mem_cons.mpr ⟨List.mem_of_getElem? (i := 3) rfl, (List.forall_mem_cons.mpr ⟨List.mem_of_getElem? (i := 1) rfl, (List.forall_mem_cons.mpr ⟨List.mem_of_getElem? (i := 4) rfl, (List.forall_mem_cons.mpr ⟨List.mem_of_getElem? (i := 5) rfl, (List.forall_mem_cons.mpr ⟨List.mem_of_getElem? (i := 6) rfl, (List.forall_mem_cons.mpr ⟨List.mem_of_getElem? (i := 7) rfl, (fun _ h => absurd h List.not_mem_nil)⟩)⟩)⟩)⟩)⟩)⟩)⟩) (ih24778 y24851 x24441 y24823 (by omega) (by omega) (by omega) (by omega) (by omega))
                  · skip
                    have b24853l := Int32.le_toInt x24441
                    have b24853h := Int32.toInt_lt x24441
                    obtain ⟨y24854, ey24854⟩ : ∃ y : Int32, y = x24441 + Int32.ofInt 1 := ⟨_, rfl⟩
                    refine g_iinc (v := y24854) (lv' := [(5, .int y24854), (4, .int y24823), (7, .int y24823), (6, .int x24440), (0, .ref (r 0)), (1, .int z1), (2, .int z2), (3, .int z3)]) hk 3 dX12_lean_124 rfl ey24854.symm (by decide) rfl ?_
                    obtain ⟨y24855, ey24855⟩ : ∃ y : Int32, y = x24440 + Int32.ofInt 1 := ⟨_, rfl⟩
                    have hy24855 : y24855.toInt = x24440.toInt + 1 := i32_add ey24855 rfl (by decide) (by omega) (by omega)
                    refine g_iinc (v := y24855) (lv' := [(6, .int y24855), (5, .int y24854), (4, .int y24823), (7, .int y24823), (0, .ref (r 0)), (1, .int z1), (2, .int z2), (3, .int z3)]) hk 3 dX12_lean_127 rfl ey24855.symm (by decide) rfl ?_
                    refine g_goto (tgt := 44) hk dX12_lean_130 (by decide) ?_
                    have b24856l := Int32.le_toInt y24854
                    have b24856h := Int32.toInt_lt y24854
                    exact g_lv (List.forall_mem_cons.mpr ⟨List.mem_of_getElem? (i := 0) rfl, (List.forall_mem_cons.mpr ⟨List.mem_of_getElem? (i := 1) rfl, (List.forall_mem_cons.mpr ⟨List.mem_of_getElem? (i := 2) rfl, (List.forall_mem_cons.mpr ⟨List.mem_of_getElem? (i := 4) rfl, (List.forall_mem_cons.mpr ⟨List.mem_of_getElem? (i := 5) rfl, (List.forall_mem_cons.mpr ⟨List.mem_of_getElem? (i := 6) rfl, (List.forall_mem_cons.mpr ⟨List.mem_of_getElem? (i := 7) rfl, (fun _ h => absurd h List.not_mem_nil)⟩)⟩)⟩)⟩)⟩)⟩)⟩) (ih24778 y24855 y24854 y24823 (by omega) (by omega) (by omega) (by omega) (by omega))
      obtain ⟨n24857, n24857a, n24857b⟩ : ∃ n : Nat, 41 - (0 : Int32).toInt < (n : Int) ∧ 0 < n := ⟨((41 - (0 : Int32).toInt : Int)).toNat + 1, by omega, by omega⟩
      exact lp24775 n24857 0 0 0 (by omega) (by omega) (by omega) n24857a n24857b
def wo_j205_X12_whose : List Cond := [Cond.methodLink RX12 244 yX12_in, Cond.static yX12_in, Cond.initialized RX12, Cond.methodLink RX12 257 yX12_isWindow, Cond.instanceMethod yX12_isWindow, Cond.selects RX12 yX12_isWindow yX12_isWindow, Cond.methodLink RX12 323 yX12_copies, Cond.instanceMethod yX12_copies, Cond.selects RX12 yX12_copies yX12_copies, Cond.fieldLink RX12 49 "WarpDeskModel" "queries" "[I", Cond.fieldLink RX12 197 "WarpDeskModel" "live" "I", Cond.methodLink RX12 254 yX12_wideOf, Cond.instanceMethod yX12_wideOf, Cond.selects RX12 yX12_wideOf yX12_wideOf, Cond.methodLink RX12 345 yX12_distanceOf, Cond.instanceMethod yX12_distanceOf, Cond.selects RX12 yX12_distanceOf yX12_distanceOf]
def wz_j205_X12_whose : List Cond := .code yX12_whose cX12_whose 7 (some .int) :: (wo_j205_X12_whose ++ (wsX120 ++ (wz_j145_X12_in ++ (wz_j160_X12_isWindow ++ (wz_j151_X12_copies ++ (wz_j148_X12_wideOf ++ (wz_j169_X12_distanceOf ++ ([] : List Cond))))))))
theorem zg_j205_X12_whose : ∀ w ∈ wz_j205_X12_whose, goodWord w = true := zg_cons rfl (zg_app (by decide +kernel) (zg_app zgU_wsX120 (zg_app zg_j145_X12_in (zg_app zg_j160_X12_isWindow (zg_app zg_j151_X12_copies (zg_app zg_j148_X12_wideOf (zg_app zg_j169_X12_distanceOf zg_nil)))))))
theorem zi_j205_X12_whose : ∀ w ∈ wz_j205_X12_whose, w ∈ lw_tbl := zi_cons zw_1914 (zi_app (zi_cons zw_1656 (zi_cons zw_1657 (zi_cons zw_115 (zi_cons zw_1714 (zi_cons zw_1716 (zi_cons zw_72 (zi_cons zw_1679 (zi_cons zw_1681 (zi_cons zw_70 (zi_cons zw_1406 (zi_cons zw_1400 (zi_cons zw_1667 (zi_cons zw_1669 (zi_cons zw_68 (zi_cons zw_1759 (zi_cons zw_1761 (zi_cons zw_79 zi_nil))))))))))))))))) (zi_app inX12 (zi_app zi_j145_X12_in (zi_app zi_j160_X12_isWindow (zi_app zi_j151_X12_copies (zi_app zi_j148_X12_wideOf (zi_app zi_j169_X12_distanceOf zi_nil)))))))
set_option maxHeartbeats 4000000 in
set_option maxRecDepth 100000 in
theorem j205_X12_whose (l : Launch) (D : va_G) (zt : Nat × Nat × Nat × (Nat → Nat) × (Nat → Nat)) (r : Nat → Nat) (g : Nat → ClassId) (I : Nat → Int32) (A : Nat → Nat → Int32) (L : Nat → Nat → Int64) (z1 : Int32) (z2 : Int32) (hIv : IvM I A) : GM l D zt (tyM g) yX12_whose wz_j205_X12_whose ({ frames := 6, cells := 0, slots := 0, locals := 134 } : Room) [.ref (r 0), .int z1, .int z2] (wM r g I A L) (fun v _ w' => ∃ (I' : Nat → Int32) (A' : Nat → Nat → Int32) (L' : Nat → Nat → Int64), Md [18, 19, 20] I I' ∧ Md [18, 19, 20, 21] A A' ∧ IvM I' A' ∧ ∃ y0 : Int32, ((-2) ≤ y0.toInt) ∧ (y0.toInt ≤ 4) ∧ v = some (.int y0) ∧ w' = wM r g I' A' L') 0 0 := by
  refine GM.of (cc := cX12_whose) (maxL := 7) (ret := (some .int)) (own := RX12) (lv := [(0, .ref (r 0)), (1, .int z1), (2, .int z2)]) (by decide) rfl rfl (Nat.le_of_ble_eq_true rfl) rfl (fun κ sz hk hR hN => ?_)
  have hin12 : ∀ w ∈ u_ws RX12 TX12 55, w ∈ wz_j205_X12_whose := fun w h => (List.mem_cons_of_mem _ (List.mem_append_right _ (List.mem_append_left _ h)))
  refine g_iload_n hk dX12_whose_0 rfl ?_
  refine g_iconst (v := 2) hk dX12_whose_1 (by decide) ?_
  refine g_bipush (v := 16) hk dX12_whose_2 (by decide) ?_
  have k24858 : (2 : Int32).toInt = 2 := rfl
  have k24859 : (16 : Int32).toInt = 16 := rfl
  refine g_callS (n := 3) hk (j145_X12_in l D zt r g I A L z2 2 16 hIv) (SP.same _) (fun _ h => h) (gi_S (List.mem_cons_of_mem _ (List.mem_append_left _ (List.mem_of_getElem? (i := 0) rfl))) (List.mem_cons_of_mem _ (List.mem_append_left _ (List.mem_of_getElem? (i := 1) rfl))) (List.mem_cons_of_mem _ (List.mem_append_left _ (List.mem_of_getElem? (i := 2) rfl))) (gi_sub (fun w h => (List.mem_cons_of_mem _ (List.mem_append_right _ (List.mem_append_right _ (List.mem_append_left _ h))))) zg_j145_X12_in)) rfl rfl rfl (by decide +kernel) ⟨Nat.le_of_ble_eq_true rfl, Nat.le_of_ble_eq_true rfl⟩ rfl rfl (Nat.le_of_ble_eq_true rfl) ⟨Nat.le_of_ble_eq_true rfl, Nat.le_of_ble_eq_true rfl⟩ dX12_whose_4 (fun v ty' w' hp hk' => ?_)
  rcases hp with ⟨c24860, rfl, rfl⟩ | ⟨c24862, c24863, rfl, rfl⟩
  · skip
    have b24865l := Int32.le_toInt z2
    have b24865h := Int32.toInt_lt z2
    show GW κ 7 0 0 (wM r g I A L) 7 [(0, .ref (r 0)), (1, .int z1), (2, .int z2)] [.int 0]
    refine g_if_eq (tgt := 19) (a := 0) hk dX12_whose_7 (by decide) rfl (fun _ => ?_) (fun z9 => absurd (show (0 : Int) = (0 : Int) from by decide) z9)
    refine g_iconst (v := (-1)) hk dX12_whose_19 (by decide) ?_
    exact g_iret hk hR rfl ⟨I, A, L, (show Md [18, 19, 20] I I from Md.rf), (show Md [18, 19, 20, 21] A A from Md.rf), hIv, (-1), (by decide), (by decide), rfl, rfl⟩ dX12_whose_20
  · skip
    show GW κ 7 0 0 (wM r g I A L) 7 [(0, .ref (r 0)), (1, .int z1), (2, .int z2)] [.int 1]
    refine g_if_eq (tgt := 19) (a := 1) hk dX12_whose_7 (by decide) rfl (fun z9 => absurd z9 (show ¬ ((1 : Int) = (0 : Int)) from by decide)) (fun _ => ?_)
    refine g_aload_n hk dX12_whose_10 rfl ?_
    refine g_iload_n hk dX12_whose_11 rfl ?_
    refine g_iload_n hk dX12_whose_12 rfl ?_
    refine g_callV (n := 2) hk (j160_X12_isWindow l D zt r g I A L z1 z2 hIv) (SP.same _) (fun _ h => h) (gi_V (List.mem_cons_of_mem _ (List.mem_append_left _ (List.mem_of_getElem? (i := 3) rfl))) (List.mem_cons_of_mem _ (List.mem_append_left _ (List.mem_of_getElem? (i := 4) rfl))) (List.mem_cons_of_mem _ (List.mem_append_left _ (List.mem_of_getElem? (i := 5) rfl))) (List.mem_cons_of_mem _ (List.mem_append_left _ (List.mem_of_getElem? (i := 2) rfl))) (gi_sub (fun w h => (List.mem_cons_of_mem _ (List.mem_append_right _ (List.mem_append_right _ (List.mem_append_right _ (List.mem_append_left _ h)))))) zg_j160_X12_isWindow)) rfl rfl rfl (by decide +kernel) ⟨Nat.le_of_ble_eq_true rfl, Nat.le_of_ble_eq_true rfl⟩ 0 rfl rfl rfl rfl (Nat.le_of_ble_eq_true rfl) ⟨Nat.le_of_ble_eq_true rfl, Nat.le_of_ble_eq_true rfl⟩ dX12_whose_13 (fun v ty' w' hp hk' => ?_)
    rcases hp with ⟨rfl, rfl⟩ | ⟨c24867, c24868, c24869, c24870, c24871, c24872, c24873, rfl, rfl⟩
    · skip
      show GW κ 7 0 0 (wM r g I A L) 16 [(0, .ref (r 0)), (1, .int z1), (2, .int z2)] [.int 0]
      refine g_if_ne (tgt := 21) (a := 0) hk dX12_whose_16 (by decide) rfl (fun z9 => absurd z9 (show ¬ ((0 : Int) ≠ (0 : Int)) from by decide)) (fun _ => ?_)
      refine g_iconst (v := (-1)) hk dX12_whose_19 (by decide) ?_
      exact g_iret hk hR rfl ⟨I, A, L, (show Md [18, 19, 20] I I from Md.rf), (show Md [18, 19, 20, 21] A A from Md.rf), hIv, (-1), (by decide), (by decide), rfl, rfl⟩ dX12_whose_20
    · skip
      show GW κ 7 0 0 (wM r g I A L) 16 [(0, .ref (r 0)), (1, .int z1), (2, .int z2)] [.int 1]
      refine g_if_ne (tgt := 21) (a := 1) hk dX12_whose_16 (by decide) rfl (fun _ => ?_) (fun z9 => absurd (show (1 : Int) ≠ (0 : Int) from by decide) z9)
      refine g_aload_n hk dX12_whose_21 rfl ?_
      refine g_callV (n := 0) hk (j151_X12_copies l D zt r g I A L  hIv) (SP.same _) (fun _ h => h) (gi_V (List.mem_cons_of_mem _ (List.mem_append_left _ (List.mem_of_getElem? (i := 6) rfl))) (List.mem_cons_of_mem _ (List.mem_append_left _ (List.mem_of_getElem? (i := 7) rfl))) (List.mem_cons_of_mem _ (List.mem_append_left _ (List.mem_of_getElem? (i := 8) rfl))) (List.mem_cons_of_mem _ (List.mem_append_left _ (List.mem_of_getElem? (i := 2) rfl))) (gi_sub (fun w h => (List.mem_cons_of_mem _ (List.mem_append_right _ (List.mem_append_right _ (List.mem_append_right _ (List.mem_append_right _ (List.mem_append_left _ h))))))) zg_j151_X12_copies)) rfl rfl rfl (by decide +kernel) ⟨Nat.le_of_ble_eq_true rfl, Nat.le_of_ble_eq_true rfl⟩ 0 rfl rfl rfl rfl (Nat.le_of_ble_eq_true rfl) ⟨Nat.le_of_ble_eq_true rfl, Nat.le_of_ble_eq_true rfl⟩ dX12_whose_22 (fun v ty' w' hp hk' => ?_)
      obtain ⟨I24876, A24876, L24876, hI24876, hA24876, hV24876, r24877, r24878, rfl, rfl⟩ := hp
      have f24879 := IvM_s17_0 hIv
      have f24880 := IvM_s17_164 hIv
      show GW κ 7 0 0 (wM r g I24876 A24876 L24876) 25 [(0, .ref (r 0)), (1, .int z1), (2, .int z2)] []
      refine g_bipush (v := (-2)) hk dX12_whose_25 (by decide) ?_
      refine g_istore_n (lv' := [(3, .int (-2)), (0, .ref (r 0)), (1, .int z1), (2, .int z2)]) hk dX12_whose_27 (by decide) rfl ?_
      refine g_iconst (v := 0) hk dX12_whose_28 (by decide) ?_
      refine g_istore (lv' := [(4, .int 0), (3, .int (-2)), (0, .ref (r 0)), (1, .int z1), (2, .int z2)]) hk dX12_whose_29 (by decide) rfl ?_
      refine g_iconst (v := 0) hk dX12_whose_31 (by decide) ?_
      refine g_istore (lv' := [(5, .int 0), (4, .int 0), (3, .int (-2)), (0, .ref (r 0)), (1, .int z1), (2, .int z2)]) hk dX12_whose_32 (by decide) rfl ?_
      have lp25057 : ∀ (n25058 : Nat) (x24881 : Int32) (x24882 : Int32) (x24883 : Int32) (I24887 : Nat → Int32) (A24887 : Nat → Nat → Int32) (L24887 : Nat → Nat → Int64), (Md [18, 19, 20] I24876 I24887) → (Md [19, 20, 21] A24876 A24887) → (IvM I24887 A24887) → (0 ≤ x24881.toInt) → (x24881.toInt ≤ 5) → ((-2) ≤ x24883.toInt) → (x24883.toInt ≤ 4) → (6 - x24881.toInt < (n25058 : Int)) → (0 < n25058) → GW κ 7 0 0 (wM r g I24887 A24887 L24887) 34 [(5, .int x24881), (4, .int x24882), (3, .int x24883), (0, .ref (r 0)), (1, .int z1), (2, .int z2)] [] := by
        intro n25058
        induction n25058 with
        | zero =>
          intro x24881 x24882 x24883 I24887 A24887 L24887 hI24887 hA24887 hV24887 h25053 h25054 h25055 h25056 m25059 m25059z
          exact absurd m25059z (Nat.lt_irrefl 0)
        | succ n25058 ih25060 =>
          intro x24881 x24882 x24883 I24887 A24887 L24887 hI24887 hA24887 hV24887 h25053 h25054 h25055 h25056 m25059 m25059z
          refine g_iload hk dX12_whose_34 rfl ?_
          refine g_aload_n hk dX12_whose_36 rfl ?_
          refine gM_r0_28 hk hin12 (List.mem_cons_of_mem _ (List.mem_append_left _ (List.mem_of_getElem? (i := 9) rfl))) dX12_whose_37 ?_
          refine g_aload_n hk dX12_whose_40 rfl ?_
          refine gM_i15 (v := (I 15)) hk hin12 (List.mem_cons_of_mem _ (List.mem_append_left _ (List.mem_of_getElem? (i := 10) rfl))) dX12_whose_41 ((hI24887 15 rfl).trans (hI24876 15 rfl)) ?_
          have f25061 := IvM_f15 hIv
          by_cases c25062 : (I 15).toInt = 0
          · have ec25062 : (I 15) = 0 := Int32.toInt_inj.mp c25062
            rw [ec25062]
            show GW κ 7 0 0 (wM r g I24887 A24887 L24887) 44 [(5, .int x24881), (4, .int x24882), (3, .int x24883), (0, .ref (r 0)), (1, .int z1), (2, .int z2)] [.int 0, .ref (r 11), .int x24881]
            refine lM_10 (v := (A 10 0)) hk (vp_in_iff.mpr ⟨by decide, by decide⟩) ((congrFun (hA24887 10 rfl) _).trans (congrFun (hA24876 10 rfl) _)) dX12_whose_44 ?_
            have f25063 := IvM_s10_0 hIv
            refine g_icmp_ge (tgt := 97) (a := x24881.toInt) (b := (A 10 0).toInt) hk dX12_whose_45 (by decide) rfl rfl (fun c25064 => ?_) (fun c25064 => ?_)
            · skip
              refine g_iload_n hk dX12_whose_97 rfl ?_
              exact g_iret hk hR rfl ⟨I24887, A24887, L24887, (show Md [18, 19, 20] I I24887 from (Md.tr (Md.tr Md.rf hI24876 rfl) hI24887 rfl)), (show Md [18, 19, 20, 21] A A24887 from (Md.tr (Md.tr Md.rf hA24876 rfl) hA24887 rfl)), hV24887, x24883, (by omega), (by omega), rfl, rfl⟩ dX12_whose_98
            · skip
              refine g_aload_n hk dX12_whose_48 rfl ?_
              refine g_iload hk dX12_whose_49 rfl ?_
              refine g_callV (n := 1) hk (j148_X12_wideOf l D zt r g I24887 A24887 L24887 x24881 hV24887 (by omega) (by omega)) (SP.same _) (fun _ h => h) (gi_V (List.mem_cons_of_mem _ (List.mem_append_left _ (List.mem_of_getElem? (i := 11) rfl))) (List.mem_cons_of_mem _ (List.mem_append_left _ (List.mem_of_getElem? (i := 12) rfl))) (List.mem_cons_of_mem _ (List.mem_append_left _ (List.mem_of_getElem? (i := 13) rfl))) (List.mem_cons_of_mem _ (List.mem_append_left _ (List.mem_of_getElem? (i := 2) rfl))) (gi_sub (fun w h => (List.mem_cons_of_mem _ (List.mem_append_right _ (List.mem_append_right _ (List.mem_append_right _ (List.mem_append_right _ (List.mem_append_right _ (List.mem_append_left _ h)))))))) zg_j148_X12_wideOf)) rfl rfl rfl (by decide +kernel) ⟨Nat.le_of_ble_eq_true rfl, Nat.le_of_ble_eq_true rfl⟩ 0 rfl rfl rfl rfl (Nat.le_of_ble_eq_true rfl) ⟨Nat.le_of_ble_eq_true rfl, Nat.le_of_ble_eq_true rfl⟩ dX12_whose_51 (fun v ty' w' hp hk' => ?_)
              obtain ⟨rfl, rfl⟩ := hp
              show GW κ 7 0 0 (wM r g I24887 A24887 L24887) 54 [(5, .int x24881), (4, .int x24882), (3, .int x24883), (0, .ref (r 0)), (1, .int z1), (2, .int z2)] [.int (A24887 11 (5 * (I24887 15) + x24881).toNatClampNeg)]
              refine g_norm (v := (A 11 (5 * (I 15) + x24881).toNatClampNeg)) (by rw [show I24887 15 = (I 15) from ((hI24887 15 rfl).trans (hI24876 15 rfl))]; exact ((congrFun (hA24887 11 rfl) _).trans (congrFun (hA24876 11 rfl) _))) ?_
              have f25065 : 0 ≤ (A 11 (5 * (I 15) + x24881).toNatClampNeg).toInt ∧ (A 11 (5 * (I 15) + x24881).toNatClampNeg).toInt ≤ 16 := IvM_a11 hIv _
              refine g_iload_n hk dX12_whose_54 rfl ?_
              refine g_icmp_eq (tgt := 61) (a := (A 11 (5 * (I 15) + x24881).toNatClampNeg).toInt) (b := z2.toInt) hk dX12_whose_55 (by decide) rfl rfl (fun c25066 => ?_) (fun c25066 => ?_)
              · skip
                refine g_aload_n hk dX12_whose_61 rfl ?_
                refine g_iload hk dX12_whose_62 rfl ?_
                refine g_iload_n hk dX12_whose_64 rfl ?_
                refine g_callV (n := 2) hk (j169_X12_distanceOf l D zt r g I24887 A24887 L24887 x24881 z1 hV24887 (by omega) (by omega) (by omega) (by omega) (by first | (rw [show (A24887 11 (5 * (I24887 15) + x24881).toNatClampNeg) = (A 11 (5 * (I 15) + x24881).toNatClampNeg) from (by rw [show I24887 15 = (I 15) from ((hI24887 15 rfl).trans (hI24876 15 rfl))]; exact ((congrFun (hA24887 11 rfl) _).trans (congrFun (hA24876 11 rfl) _)))] <;> omega) | omega) (by first | (rw [show (A24887 11 (5 * (I24887 15) + x24881).toNatClampNeg) = (A 11 (5 * (I 15) + x24881).toNatClampNeg) from (by rw [show I24887 15 = (I 15) from ((hI24887 15 rfl).trans (hI24876 15 rfl))]; exact ((congrFun (hA24887 11 rfl) _).trans (congrFun (hA24876 11 rfl) _)))] <;> omega) | omega)) (SP.same _) (fun _ h => h) (gi_V (List.mem_cons_of_mem _ (List.mem_append_left _ (List.mem_of_getElem? (i := 14) rfl))) (List.mem_cons_of_mem _ (List.mem_append_left _ (List.mem_of_getElem? (i := 15) rfl))) (List.mem_cons_of_mem _ (List.mem_append_left _ (List.mem_of_getElem? (i := 16) rfl))) (List.mem_cons_of_mem _ (List.mem_append_left _ (List.mem_of_getElem? (i := 2) rfl))) (gi_sub (fun w h => (List.mem_cons_of_mem _ (List.mem_append_right _ (List.mem_append_right _ (List.mem_append_right _ (List.mem_append_right _ (List.mem_append_right _ (List.mem_append_right _ (List.mem_append_left _ h))))))))) zg_j169_X12_distanceOf)) rfl rfl rfl (by decide +kernel) ⟨Nat.le_of_ble_eq_true rfl, Nat.le_of_ble_eq_true rfl⟩ 0 rfl rfl rfl rfl (Nat.le_of_ble_eq_true rfl) ⟨Nat.le_of_ble_eq_true rfl, Nat.le_of_ble_eq_true rfl⟩ dX12_whose_65 (fun v ty' w' hp hk' => ?_)
                obtain ⟨I25068, A25068, L25068, hI25068, hA25068, hV25068, y25067, r25069, rfl, rfl⟩ := hp
                have f25070 := IvM_f18 hV25068
                show GW κ 7 0 0 (wM r g I25068 A25068 L25068) 68 [(5, .int x24881), (4, .int x24882), (3, .int x24883), (0, .ref (r 0)), (1, .int z1), (2, .int z2)] [.int y25067]
                refine g_istore (lv' := [(6, .int y25067), (5, .int x24881), (4, .int x24882), (3, .int x24883), (0, .ref (r 0)), (1, .int z1), (2, .int z2)]) hk dX12_whose_68 (by decide) rfl ?_
                refine g_iload_n hk dX12_whose_70 rfl ?_
                refine g_if_lt (tgt := 84) (a := x24883.toInt) hk dX12_whose_71 (by decide) rfl (fun c25071 => ?_) (fun c25071 => ?_)
                · skip
                  refine g_iload hk dX12_whose_84 rfl ?_
                  refine g_istore_n (lv' := [(3, .int x24881), (6, .int y25067), (5, .int x24881), (4, .int x24882), (0, .ref (r 0)), (1, .int z1), (2, .int z2)]) hk dX12_whose_86 (by decide) rfl ?_
                  refine g_iload hk dX12_whose_87 rfl ?_
                  refine g_istore (lv' := [(4, .int y25067), (3, .int x24881), (6, .int y25067), (5, .int x24881), (0, .ref (r 0)), (1, .int z1), (2, .int z2)]) hk dX12_whose_89 (by decide) rfl ?_
                  obtain ⟨y25072, ey25072⟩ : ∃ y : Int32, y = x24881 + Int32.ofInt 1 := ⟨_, rfl⟩
                  have hy25072 : y25072.toInt = x24881.toInt + 1 := i32_add ey25072 rfl (by decide) (by omega) (by omega)
                  refine g_iinc (v := y25072) (lv' := [(5, .int y25072), (4, .int y25067), (3, .int x24881), (6, .int y25067), (0, .ref (r 0)), (1, .int z1), (2, .int z2)]) hk 3 dX12_whose_91 rfl ey25072.symm (by decide) rfl ?_
                  refine g_goto (tgt := 34) hk dX12_whose_94 (by decide) ?_
                  have b25073l := Int32.le_toInt y25067
                  have b25073h := Int32.toInt_lt y25067
                  exact g_lv (List.forall_mem_cons.mpr ⟨List.mem_of_getElem? (i := 0) rfl, (List.forall_mem_cons.mpr ⟨List.mem_of_getElem? (i := 1) rfl, (List.forall_mem_cons.mpr ⟨List.mem_of_getElem? (i := 2) rfl, (List.forall_mem_cons.mpr ⟨List.mem_of_getElem? (i := 4) rfl, (List.forall_mem_cons.mpr ⟨List.mem_of_getElem? (i := 5) rfl, (List.forall_mem_cons.mpr ⟨List.mem_of_getElem? (i := 6) rfl, (fun _ h => absurd h List.not_mem_nil)⟩)⟩)⟩)⟩)⟩)⟩) (ih25060 y25072 y25067 x24881 I25068 A25068 L25068 (show Md [18, 19, 20] I24876 I25068 from Md.tr hI24887 (show Md [18, 19, 20] I24887 I25068 from (Md.tr Md.rf hI25068 rfl)) rfl) (show Md [19, 20, 21] A24876 A25068 from Md.tr hA24887 (show Md [19, 20, 21] A24887 A25068 from (Md.tr Md.rf hA25068 rfl)) rfl) hV25068 (by omega) (by omega) (by omega) (by omega) (by omega) (by omega))
                · skip
                  refine g_iload hk dX12_whose_74 rfl ?_
                  refine g_iload hk dX12_whose_76 rfl ?_
                  have b25074l := Int32.le_toInt y25067
                  have b25074h := Int32.toInt_lt y25067
                  have b25075l := Int32.le_toInt x24882
                  have b25075h := Int32.toInt_lt x24882
                  refine g_icmp_lt (tgt := 84) (a := y25067.toInt) (b := x24882.toInt) hk dX12_whose_78 (by decide) rfl rfl (fun c25076 => ?_) (fun c25076 => ?_)
                  · skip
                    refine g_iload hk dX12_whose_84 rfl ?_
                    refine g_istore_n (lv' := [(3, .int x24881), (6, .int y25067), (5, .int x24881), (4, .int x24882), (0, .ref (r 0)), (1, .int z1), (2, .int z2)]) hk dX12_whose_86 (by decide) rfl ?_
                    refine g_iload hk dX12_whose_87 rfl ?_
                    refine g_istore (lv' := [(4, .int y25067), (3, .int x24881), (6, .int y25067), (5, .int x24881), (0, .ref (r 0)), (1, .int z1), (2, .int z2)]) hk dX12_whose_89 (by decide) rfl ?_
                    obtain ⟨y25077, ey25077⟩ : ∃ y : Int32, y = x24881 + Int32.ofInt 1 := ⟨_, rfl⟩
                    have hy25077 : y25077.toInt = x24881.toInt + 1 := i32_add ey25077 rfl (by decide) (by omega) (by omega)
                    refine g_iinc (v := y25077) (lv' := [(5, .int y25077), (4, .int y25067), (3, .int x24881), (6, .int y25067), (0, .ref (r 0)), (1, .int z1), (2, .int z2)]) hk 3 dX12_whose_91 rfl ey25077.symm (by decide) rfl ?_
                    refine g_goto (tgt := 34) hk dX12_whose_94 (by decide) ?_
                    exact g_lv (List.forall_mem_cons.mpr ⟨List.mem_of_getElem? (i := 0) rfl, (List.forall_mem_cons.mpr ⟨List.mem_of_getElem? (i := 1) rfl, (List.forall_mem_cons.mpr ⟨List.mem_of_getElem? (i := 2) rfl, (List.forall_mem_cons.mpr ⟨List.mem_of_getElem? (i := 4) rfl, (List.forall_mem_cons.mpr ⟨List.mem_of_getElem? (i := 5) rfl, (List.forall_mem_cons.mpr ⟨List.mem_of_getElem? (i := 6) rfl, (fun _ h => absurd h List.not_mem_nil)⟩)⟩)⟩)⟩)⟩)⟩) (ih25060 y25077 y25067 x24881 I25068 A25068 L25068 (show Md [18, 19, 20] I24876 I25068 from Md.tr hI24887 (show Md [18, 19, 20] I24887 I25068 from (Md.tr Md.rf hI25068 rfl)) rfl) (show Md [19, 20, 21] A24876 A25068 from Md.tr hA24887 (show Md [19, 20, 21] A24887 A25068 from (Md.tr Md.rf hA25068 rfl)) rfl) hV25068 (by omega) (by omega) (by omega) (by omega) (by omega) (by omega))
                  · skip
                    refine g_goto (tgt := 91) hk dX12_whose_81 (by decide) ?_
                    obtain ⟨y25078, ey25078⟩ : ∃ y : Int32, y = x24881 + Int32.ofInt 1 := ⟨_, rfl⟩
                    have hy25078 : y25078.toInt = x24881.toInt + 1 := i32_add ey25078 rfl (by decide) (by omega) (by omega)
                    refine g_iinc (v := y25078) (lv' := [(5, .int y25078), (6, .int y25067), (4, .int x24882), (3, .int x24883), (0, .ref (r 0)), (1, .int z1), (2, .int z2)]) hk 1 dX12_whose_91 rfl ey25078.symm (by decide) rfl ?_
                    refine g_goto (tgt := 34) hk dX12_whose_94 (by decide) ?_
                    exact g_lv (List.forall_mem_cons.mpr ⟨List.mem_of_getElem? (i := 0) rfl, (List.forall_mem_cons.mpr ⟨List.mem_of_getElem? (i := 2) rfl, (List.forall_mem_cons.mpr ⟨List.mem_of_getElem? (i := 3) rfl, (List.forall_mem_cons.mpr ⟨List.mem_of_getElem? (i := 4) rfl, (List.forall_mem_cons.mpr ⟨List.mem_of_getElem? (i := 5) rfl, (List.forall_mem_cons.mpr ⟨List.mem_of_getElem? (i := 6) rfl, (fun _ h => absurd h List.not_mem_nil)⟩)⟩)⟩)⟩)⟩)⟩) (ih25060 y25078 x24882 x24883 I25068 A25068 L25068 (show Md [18, 19, 20] I24876 I25068 from Md.tr hI24887 (show Md [18, 19, 20] I24887 I25068 from (Md.tr Md.rf hI25068 rfl)) rfl) (show Md [19, 20, 21] A24876 A25068 from Md.tr hA24887 (show Md [19, 20, 21] A24887 A25068 from (Md.tr Md.rf hA25068 rfl)) rfl) hV25068 (by omega) (by omega) (by omega) (by omega) (by omega) (by omega))
              · skip
                refine g_goto (tgt := 91) hk dX12_whose_58 (by decide) ?_
                obtain ⟨y25079, ey25079⟩ : ∃ y : Int32, y = x24881 + Int32.ofInt 1 := ⟨_, rfl⟩
                have hy25079 : y25079.toInt = x24881.toInt + 1 := i32_add ey25079 rfl (by decide) (by omega) (by omega)
                refine g_iinc (v := y25079) (lv' := [(5, .int y25079), (4, .int x24882), (3, .int x24883), (0, .ref (r 0)), (1, .int z1), (2, .int z2)]) hk 0 dX12_whose_91 rfl ey25079.symm (by decide) rfl ?_
                refine g_goto (tgt := 34) hk dX12_whose_94 (by decide) ?_
                have b25080l := Int32.le_toInt x24882
                have b25080h := Int32.toInt_lt x24882
                exact g_lv (List.forall_mem_cons.mpr ⟨List.mem_of_getElem? (i := 0) rfl, (List.forall_mem_cons.mpr ⟨List.mem_of_getElem? (i := 1) rfl, (List.forall_mem_cons.mpr ⟨List.mem_of_getElem? (i := 2) rfl, (List.forall_mem_cons.mpr ⟨List.mem_of_getElem? (i := 3) rfl, (List.forall_mem_cons.mpr ⟨List.mem_of_getElem? (i := 4) rfl, (List.forall_mem_cons.mpr ⟨List.mem_of_getElem? (i := 5) rfl, (fun _ h => absurd h List.not_mem_nil)⟩)⟩)⟩)⟩)⟩)⟩) (ih25060 y25079 x24882 x24883 I24887 A24887 L24887 (show Md [18, 19, 20] I24876 I24887 from Md.tr hI24887 (show Md [18, 19, 20] I24887 I24887 from Md.rf) rfl) (show Md [19, 20, 21] A24876 A24887 from Md.tr hA24887 (show Md [19, 20, 21] A24887 A24887 from Md.rf) rfl) hV24887 (by omega) (by omega) (by omega) (by omega) (by omega) (by omega))
          by_cases c25081 : (I 15).toInt = 1
          · have ec25081 : (I 15) = 1 := Int32.toInt_inj.mp c25081
            rw [ec25081]
            show GW κ 7 0 0 (wM r g I24887 A24887 L24887) 44 [(5, .int x24881), (4, .int x24882), (3, .int x24883), (0, .ref (r 0)), (1, .int z1), (2, .int z2)] [.int 1, .ref (r 11), .int x24881]
            refine lM_10 (v := (A 10 1)) hk (vp_in_iff.mpr ⟨by decide, by decide⟩) ((congrFun (hA24887 10 rfl) _).trans (congrFun (hA24876 10 rfl) _)) dX12_whose_44 ?_
            have f25082 := IvM_s10_1 hIv
            refine g_icmp_ge (tgt := 97) (a := x24881.toInt) (b := (A 10 1).toInt) hk dX12_whose_45 (by decide) rfl rfl (fun c25083 => ?_) (fun c25083 => ?_)
            · skip
              refine g_iload_n hk dX12_whose_97 rfl ?_
              exact g_iret hk hR rfl ⟨I24887, A24887, L24887, (show Md [18, 19, 20] I I24887 from (Md.tr (Md.tr Md.rf hI24876 rfl) hI24887 rfl)), (show Md [18, 19, 20, 21] A A24887 from (Md.tr (Md.tr Md.rf hA24876 rfl) hA24887 rfl)), hV24887, x24883, (by omega), (by omega), rfl, rfl⟩ dX12_whose_98
            · skip
              refine g_aload_n hk dX12_whose_48 rfl ?_
              refine g_iload hk dX12_whose_49 rfl ?_
              refine g_callV (n := 1) hk (j148_X12_wideOf l D zt r g I24887 A24887 L24887 x24881 hV24887 (by omega) (by omega)) (SP.same _) (fun _ h => h) (gi_V (List.mem_cons_of_mem _ (List.mem_append_left _ (List.mem_of_getElem? (i := 11) rfl))) (List.mem_cons_of_mem _ (List.mem_append_left _ (List.mem_of_getElem? (i := 12) rfl))) (List.mem_cons_of_mem _ (List.mem_append_left _ (List.mem_of_getElem? (i := 13) rfl))) (List.mem_cons_of_mem _ (List.mem_append_left _ (List.mem_of_getElem? (i := 2) rfl))) (gi_sub (fun w h => (List.mem_cons_of_mem _ (List.mem_append_right _ (List.mem_append_right _ (List.mem_append_right _ (List.mem_append_right _ (List.mem_append_right _ (List.mem_append_left _ h)))))))) zg_j148_X12_wideOf)) rfl rfl rfl (by decide +kernel) ⟨Nat.le_of_ble_eq_true rfl, Nat.le_of_ble_eq_true rfl⟩ 0 rfl rfl rfl rfl (Nat.le_of_ble_eq_true rfl) ⟨Nat.le_of_ble_eq_true rfl, Nat.le_of_ble_eq_true rfl⟩ dX12_whose_51 (fun v ty' w' hp hk' => ?_)
              obtain ⟨rfl, rfl⟩ := hp
              show GW κ 7 0 0 (wM r g I24887 A24887 L24887) 54 [(5, .int x24881), (4, .int x24882), (3, .int x24883), (0, .ref (r 0)), (1, .int z1), (2, .int z2)] [.int (A24887 11 (5 * (I24887 15) + x24881).toNatClampNeg)]
              refine g_norm (v := (A 11 (5 * (I 15) + x24881).toNatClampNeg)) (by rw [show I24887 15 = (I 15) from ((hI24887 15 rfl).trans (hI24876 15 rfl))]; exact ((congrFun (hA24887 11 rfl) _).trans (congrFun (hA24876 11 rfl) _))) ?_
              have f25084 : 0 ≤ (A 11 (5 * (I 15) + x24881).toNatClampNeg).toInt ∧ (A 11 (5 * (I 15) + x24881).toNatClampNeg).toInt ≤ 16 := IvM_a11 hIv _
              refine g_iload_n hk dX12_whose_54 rfl ?_
              refine g_icmp_eq (tgt := 61) (a := (A 11 (5 * (I 15) + x24881).toNatClampNeg).toInt) (b := z2.toInt) hk dX12_whose_55 (by decide) rfl rfl (fun c25085 => ?_) (fun c25085 => ?_)
              · skip
                refine g_aload_n hk dX12_whose_61 rfl ?_
                refine g_iload hk dX12_whose_62 rfl ?_
                refine g_iload_n hk dX12_whose_64 rfl ?_
                refine g_callV (n := 2) hk (j169_X12_distanceOf l D zt r g I24887 A24887 L24887 x24881 z1 hV24887 (by omega) (by omega) (by omega) (by omega) (by first | (rw [show (A24887 11 (5 * (I24887 15) + x24881).toNatClampNeg) = (A 11 (5 * (I 15) + x24881).toNatClampNeg) from (by rw [show I24887 15 = (I 15) from ((hI24887 15 rfl).trans (hI24876 15 rfl))]; exact ((congrFun (hA24887 11 rfl) _).trans (congrFun (hA24876 11 rfl) _)))] <;> omega) | omega) (by first | (rw [show (A24887 11 (5 * (I24887 15) + x24881).toNatClampNeg) = (A 11 (5 * (I 15) + x24881).toNatClampNeg) from (by rw [show I24887 15 = (I 15) from ((hI24887 15 rfl).trans (hI24876 15 rfl))]; exact ((congrFun (hA24887 11 rfl) _).trans (congrFun (hA24876 11 rfl) _)))] <;> omega) | omega)) (SP.same _) (fun _ h => h) (gi_V (List.mem_cons_of_mem _ (List.mem_append_left _ (List.mem_of_getElem? (i := 14) rfl))) (List.mem_cons_of_mem _ (List.mem_append_left _ (List.mem_of_getElem? (i := 15) rfl))) (List.mem_cons_of_mem _ (List.mem_append_left _ (List.mem_of_getElem? (i := 16) rfl))) (List.mem_cons_of_mem _ (List.mem_append_left _ (List.mem_of_getElem? (i := 2) rfl))) (gi_sub (fun w h => (List.mem_cons_of_mem _ (List.mem_append_right _ (List.mem_append_right _ (List.mem_append_right _ (List.mem_append_right _ (List.mem_append_right _ (List.mem_append_right _ (List.mem_append_left _ h))))))))) zg_j169_X12_distanceOf)) rfl rfl rfl (by decide +kernel) ⟨Nat.le_of_ble_eq_true rfl, Nat.le_of_ble_eq_true rfl⟩ 0 rfl rfl rfl rfl (Nat.le_of_ble_eq_true rfl) ⟨Nat.le_of_ble_eq_true rfl, Nat.le_of_ble_eq_true rfl⟩ dX12_whose_65 (fun v ty' w' hp hk' => ?_)
                obtain ⟨I25087, A25087, L25087, hI25087, hA25087, hV25087, y25086, r25088, rfl, rfl⟩ := hp
                have f25089 := IvM_f18 hV25087
                show GW κ 7 0 0 (wM r g I25087 A25087 L25087) 68 [(5, .int x24881), (4, .int x24882), (3, .int x24883), (0, .ref (r 0)), (1, .int z1), (2, .int z2)] [.int y25086]
                refine g_istore (lv' := [(6, .int y25086), (5, .int x24881), (4, .int x24882), (3, .int x24883), (0, .ref (r 0)), (1, .int z1), (2, .int z2)]) hk dX12_whose_68 (by decide) rfl ?_
                refine g_iload_n hk dX12_whose_70 rfl ?_
                refine g_if_lt (tgt := 84) (a := x24883.toInt) hk dX12_whose_71 (by decide) rfl (fun c25090 => ?_) (fun c25090 => ?_)
                · skip
                  refine g_iload hk dX12_whose_84 rfl ?_
                  refine g_istore_n (lv' := [(3, .int x24881), (6, .int y25086), (5, .int x24881), (4, .int x24882), (0, .ref (r 0)), (1, .int z1), (2, .int z2)]) hk dX12_whose_86 (by decide) rfl ?_
                  refine g_iload hk dX12_whose_87 rfl ?_
                  refine g_istore (lv' := [(4, .int y25086), (3, .int x24881), (6, .int y25086), (5, .int x24881), (0, .ref (r 0)), (1, .int z1), (2, .int z2)]) hk dX12_whose_89 (by decide) rfl ?_
                  obtain ⟨y25091, ey25091⟩ : ∃ y : Int32, y = x24881 + Int32.ofInt 1 := ⟨_, rfl⟩
                  have hy25091 : y25091.toInt = x24881.toInt + 1 := i32_add ey25091 rfl (by decide) (by omega) (by omega)
                  refine g_iinc (v := y25091) (lv' := [(5, .int y25091), (4, .int y25086), (3, .int x24881), (6, .int y25086), (0, .ref (r 0)), (1, .int z1), (2, .int z2)]) hk 3 dX12_whose_91 rfl ey25091.symm (by decide) rfl ?_
                  refine g_goto (tgt := 34) hk dX12_whose_94 (by decide) ?_
                  have b25092l := Int32.le_toInt y25086
                  have b25092h := Int32.toInt_lt y25086
                  exact g_lv (List.forall_mem_cons.mpr ⟨List.mem_of_getElem? (i := 0) rfl, (List.forall_mem_cons.mpr ⟨List.mem_of_getElem? (i := 1) rfl, (List.forall_mem_cons.mpr ⟨List.mem_of_getElem? (i := 2) rfl, (List.forall_mem_cons.mpr ⟨List.mem_of_getElem? (i := 4) rfl, (List.forall_mem_cons.mpr ⟨List.mem_of_getElem? (i := 5) rfl, (List.forall_mem_cons.mpr ⟨List.mem_of_getElem? (i := 6) rfl, (fun _ h => absurd h List.not_mem_nil)⟩)⟩)⟩)⟩)⟩)⟩) (ih25060 y25091 y25086 x24881 I25087 A25087 L25087 (show Md [18, 19, 20] I24876 I25087 from Md.tr hI24887 (show Md [18, 19, 20] I24887 I25087 from (Md.tr Md.rf hI25087 rfl)) rfl) (show Md [19, 20, 21] A24876 A25087 from Md.tr hA24887 (show Md [19, 20, 21] A24887 A25087 from (Md.tr Md.rf hA25087 rfl)) rfl) hV25087 (by omega) (by omega) (by omega) (by omega) (by omega) (by omega))
                · skip
                  refine g_iload hk dX12_whose_74 rfl ?_
                  refine g_iload hk dX12_whose_76 rfl ?_
                  have b25093l := Int32.le_toInt y25086
                  have b25093h := Int32.toInt_lt y25086
                  have b25094l := Int32.le_toInt x24882
                  have b25094h := Int32.toInt_lt x24882
                  refine g_icmp_lt (tgt := 84) (a := y25086.toInt) (b := x24882.toInt) hk dX12_whose_78 (by decide) rfl rfl (fun c25095 => ?_) (fun c25095 => ?_)
                  · skip
                    refine g_iload hk dX12_whose_84 rfl ?_
                    refine g_istore_n (lv' := [(3, .int x24881), (6, .int y25086), (5, .int x24881), (4, .int x24882), (0, .ref (r 0)), (1, .int z1), (2, .int z2)]) hk dX12_whose_86 (by decide) rfl ?_
                    refine g_iload hk dX12_whose_87 rfl ?_
                    refine g_istore (lv' := [(4, .int y25086), (3, .int x24881), (6, .int y25086), (5, .int x24881), (0, .ref (r 0)), (1, .int z1), (2, .int z2)]) hk dX12_whose_89 (by decide) rfl ?_
                    obtain ⟨y25096, ey25096⟩ : ∃ y : Int32, y = x24881 + Int32.ofInt 1 := ⟨_, rfl⟩
                    have hy25096 : y25096.toInt = x24881.toInt + 1 := i32_add ey25096 rfl (by decide) (by omega) (by omega)
                    refine g_iinc (v := y25096) (lv' := [(5, .int y25096), (4, .int y25086), (3, .int x24881), (6, .int y25086), (0, .ref (r 0)), (1, .int z1), (2, .int z2)]) hk 3 dX12_whose_91 rfl ey25096.symm (by decide) rfl ?_
                    refine g_goto (tgt := 34) hk dX12_whose_94 (by decide) ?_
                    exact g_lv (List.forall_mem_cons.mpr ⟨List.mem_of_getElem? (i := 0) rfl, (List.forall_mem_cons.mpr ⟨List.mem_of_getElem? (i := 1) rfl, (List.forall_mem_cons.mpr ⟨List.mem_of_getElem? (i := 2) rfl, (List.forall_mem_cons.mpr ⟨List.mem_of_getElem? (i := 4) rfl, (List.forall_mem_cons.mpr ⟨List.mem_of_getElem? (i := 5) rfl, (List.forall_mem_cons.mpr ⟨List.mem_of_getElem? (i := 6) rfl, (fun _ h => absurd h List.not_mem_nil)⟩)⟩)⟩)⟩)⟩)⟩) (ih25060 y25096 y25086 x24881 I25087 A25087 L25087 (show Md [18, 19, 20] I24876 I25087 from Md.tr hI24887 (show Md [18, 19, 20] I24887 I25087 from (Md.tr Md.rf hI25087 rfl)) rfl) (show Md [19, 20, 21] A24876 A25087 from Md.tr hA24887 (show Md [19, 20, 21] A24887 A25087 from (Md.tr Md.rf hA25087 rfl)) rfl) hV25087 (by omega) (by omega) (by omega) (by omega) (by omega) (by omega))
                  · skip
                    refine g_goto (tgt := 91) hk dX12_whose_81 (by decide) ?_
                    obtain ⟨y25097, ey25097⟩ : ∃ y : Int32, y = x24881 + Int32.ofInt 1 := ⟨_, rfl⟩
                    have hy25097 : y25097.toInt = x24881.toInt + 1 := i32_add ey25097 rfl (by decide) (by omega) (by omega)
                    refine g_iinc (v := y25097) (lv' := [(5, .int y25097), (6, .int y25086), (4, .int x24882), (3, .int x24883), (0, .ref (r 0)), (1, .int z1), (2, .int z2)]) hk 1 dX12_whose_91 rfl ey25097.symm (by decide) rfl ?_
                    refine g_goto (tgt := 34) hk dX12_whose_94 (by decide) ?_
                    exact g_lv (List.forall_mem_cons.mpr ⟨List.mem_of_getElem? (i := 0) rfl, (List.forall_mem_cons.mpr ⟨List.mem_of_getElem? (i := 2) rfl, (List.forall_mem_cons.mpr ⟨List.mem_of_getElem? (i := 3) rfl, (List.forall_mem_cons.mpr ⟨List.mem_of_getElem? (i := 4) rfl, (List.forall_mem_cons.mpr ⟨List.mem_of_getElem? (i := 5) rfl, (List.forall_mem_cons.mpr ⟨List.mem_of_getElem? (i := 6) rfl, (fun _ h => absurd h List.not_mem_nil)⟩)⟩)⟩)⟩)⟩)⟩) (ih25060 y25097 x24882 x24883 I25087 A25087 L25087 (show Md [18, 19, 20] I24876 I25087 from Md.tr hI24887 (show Md [18, 19, 20] I24887 I25087 from (Md.tr Md.rf hI25087 rfl)) rfl) (show Md [19, 20, 21] A24876 A25087 from Md.tr hA24887 (show Md [19, 20, 21] A24887 A25087 from (Md.tr Md.rf hA25087 rfl)) rfl) hV25087 (by omega) (by omega) (by omega) (by omega) (by omega) (by omega))
              · skip
                refine g_goto (tgt := 91) hk dX12_whose_58 (by decide) ?_
                obtain ⟨y25098, ey25098⟩ : ∃ y : Int32, y = x24881 + Int32.ofInt 1 := ⟨_, rfl⟩
                have hy25098 : y25098.toInt = x24881.toInt + 1 := i32_add ey25098 rfl (by decide) (by omega) (by omega)
                refine g_iinc (v := y25098) (lv' := [(5, .int y25098), (4, .int x24882), (3, .int x24883), (0, .ref (r 0)), (1, .int z1), (2, .int z2)]) hk 0 dX12_whose_91 rfl ey25098.symm (by decide) rfl ?_
                refine g_goto (tgt := 34) hk dX12_whose_94 (by decide) ?_
                have b25099l := Int32.le_toInt x24882
                have b25099h := Int32.toInt_lt x24882
                exact g_lv (List.forall_mem_cons.mpr ⟨List.mem_of_getElem? (i := 0) rfl, (List.forall_mem_cons.mpr ⟨List.mem_of_getElem? (i := 1) rfl, (List.forall_mem_cons.mpr ⟨List.mem_of_getElem? (i := 2) rfl, (List.forall_mem_cons.mpr ⟨List.mem_of_getElem? (i := 3) rfl, (List.forall_mem_cons.mpr ⟨List.mem_of_getElem? (i := 4) rfl, (List.forall_mem_cons.mpr ⟨List.mem_of_getElem? (i := 5) rfl, (fun _ h => absurd h List.not_mem_nil)⟩)⟩)⟩)⟩)⟩)⟩) (ih25060 y25098 x24882 x24883 I24887 A24887 L24887 (show Md [18, 19, 20] I24876 I24887 from Md.tr hI24887 (show Md [18, 19, 20] I24887 I24887 from Md.rf) rfl) (show Md [19, 20, 21] A24876 A24887 from Md.tr hA24887 (show Md [19, 20, 21] A24887 A24887 from Md.rf) rfl) hV24887 (by omega) (by omega) (by omega) (by omega) (by omega) (by omega))
          exfalso; omega
      have k25100 : (0 : Int32).toInt = 0 := rfl
      have k25101 : ((-2) : Int32).toInt = (-2) := rfl
      obtain ⟨n25102, n25102a, n25102b⟩ : ∃ n : Nat, 6 - (0 : Int32).toInt < (n : Int) ∧ 0 < n := ⟨((6 - (0 : Int32).toInt : Int)).toNat + 1, by omega, by omega⟩
      exact lp25057 n25102 0 0 (-2) I24876 A24876 L24876 Md.rf Md.rf hV24876 (by omega) (by omega) (by omega) (by omega) n25102a n25102b
def wo_j207_X12_rankOf : List Cond := [Cond.fieldLink RX12 91 "WarpDeskModel" "farBy" "[I"]
def wz_j207_X12_rankOf : List Cond := .code yX12_rankOf cX12_rankOf 4 (some .int) :: (wo_j207_X12_rankOf ++ (wsX120 ++ ([] : List Cond)))
theorem zg_j207_X12_rankOf : ∀ w ∈ wz_j207_X12_rankOf, goodWord w = true := zg_cons rfl (zg_app (by decide +kernel) (zg_app zgU_wsX120 zg_nil))
theorem zi_j207_X12_rankOf : ∀ w ∈ wz_j207_X12_rankOf, w ∈ lw_tbl := zi_cons zw_1891 (zi_app (zi_cons zw_1426 zi_nil) (zi_app inX12 zi_nil))
set_option maxHeartbeats 4000000 in
set_option maxRecDepth 100000 in
theorem j207_X12_rankOf (l : Launch) (D : va_G) (zt : Nat × Nat × Nat × (Nat → Nat) × (Nat → Nat)) (r : Nat → Nat) (g : Nat → ClassId) (I : Nat → Int32) (A : Nat → Nat → Int32) (L : Nat → Nat → Int64) (z1 : Int32) (hIv : IvM I A) (hp0 : 0 ≤ z1.toInt) (hp1 : z1.toInt ≤ 159) : GM l D zt (tyM g) yX12_rankOf wz_j207_X12_rankOf ({ frames := 0, cells := 0, slots := 0, locals := 0 } : Room) [.ref (r 0), .int z1] (wM r g I A L) (fun v _ w' => ∃ y0 : Int32, v = some (.int y0) ∧ w' = wM r g I A L) 0 0 := by
  refine GM.of (cc := cX12_rankOf) (maxL := 4) (ret := (some .int)) (own := RX12) (lv := [(0, .ref (r 0)), (1, .int z1)]) (by decide) rfl rfl (Nat.le_of_ble_eq_true rfl) rfl (fun κ sz hk hR hN => ?_)
  have hin12 : ∀ w ∈ u_ws RX12 TX12 55, w ∈ wz_j207_X12_rankOf := fun w h => (List.mem_cons_of_mem _ (List.mem_append_right _ (List.mem_append_left _ h)))
  refine g_iconst (v := 0) hk dX12_rankOf_0 (by decide) ?_
  refine g_istore_n (lv' := [(2, .int 0), (0, .ref (r 0)), (1, .int z1)]) hk dX12_rankOf_1 (by decide) rfl ?_
  refine g_iconst (v := 0) hk dX12_rankOf_2 (by decide) ?_
  refine g_istore_n (lv' := [(3, .int 0), (2, .int 0), (0, .ref (r 0)), (1, .int z1)]) hk dX12_rankOf_3 (by decide) rfl ?_
  have lp25197 : ∀ (n25198 : Nat) (x25121 : Int32) (x25122 : Int32), (0 ≤ x25121.toInt) → (x25121.toInt ≤ 160) → (161 - x25121.toInt < (n25198 : Int)) → (0 < n25198) → GW κ 4 0 0 (wM r g I A L) 4 [(3, .int x25121), (2, .int x25122), (0, .ref (r 0)), (1, .int z1)] [] := by
    intro n25198
    induction n25198 with
    | zero =>
      intro x25121 x25122 h25195 h25196 m25199 m25199z
      exact absurd m25199z (Nat.lt_irrefl 0)
    | succ n25198 ih25200 =>
      intro x25121 x25122 h25195 h25196 m25199 m25199z
      refine g_iload_n hk dX12_rankOf_4 rfl ?_
      refine g_sipush (v := 160) hk dX12_rankOf_5 (by decide) ?_
      refine g_icmp_ge (tgt := 64) (a := x25121.toInt) (b := 160) hk dX12_rankOf_8 (by decide) rfl rfl (fun c25201 => ?_) (fun c25201 => ?_)
      · skip
        refine g_iload_n hk dX12_rankOf_64 rfl ?_
        have b25202l := Int32.le_toInt x25122
        have b25202h := Int32.toInt_lt x25122
        exact g_iret hk hR rfl ⟨x25122, rfl, rfl⟩ dX12_rankOf_65
      · skip
        refine g_aload_n hk dX12_rankOf_11 rfl ?_
        refine gM_r0_48 hk hin12 (List.mem_cons_of_mem _ (List.mem_append_left _ (List.mem_of_getElem? (i := 0) rfl))) dX12_rankOf_12 ?_
        refine g_iload_n hk dX12_rankOf_15 rfl ?_
        refine lM_24 (v := (A 24 x25121.toNatClampNeg)) hk (vp_in_iff.mpr ⟨by omega, by omega⟩) rfl dX12_rankOf_16 ?_
        have b25203l := Int32.le_toInt (A 24 x25121.toNatClampNeg)
        have b25203h := Int32.toInt_lt (A 24 x25121.toNatClampNeg)
        refine g_if_lt (tgt := 58) (a := (A 24 x25121.toNatClampNeg).toInt) hk dX12_rankOf_17 (by decide) rfl (fun c25204 => ?_) (fun c25204 => ?_)
        · skip
          obtain ⟨y25205, ey25205⟩ : ∃ y : Int32, y = x25121 + Int32.ofInt 1 := ⟨_, rfl⟩
          have hy25205 : y25205.toInt = x25121.toInt + 1 := i32_add ey25205 rfl (by decide) (by omega) (by omega)
          refine g_iinc (v := y25205) (lv' := [(3, .int y25205), (2, .int x25122), (0, .ref (r 0)), (1, .int z1)]) hk 0 dX12_rankOf_58 rfl ey25205.symm (by decide) rfl ?_
          refine g_goto (tgt := 4) hk dX12_rankOf_61 (by decide) ?_
          have b25206l := Int32.le_toInt x25122
          have b25206h := Int32.toInt_lt x25122
          exact g_lv (List.forall_mem_cons.mpr ⟨List.mem_of_getElem? (i := 0) rfl, (List.forall_mem_cons.mpr ⟨List.mem_of_getElem? (i := 1) rfl, (List.forall_mem_cons.mpr ⟨List.mem_of_getElem? (i := 2) rfl, (List.forall_mem_cons.mpr ⟨List.mem_of_getElem? (i := 3) rfl, (fun _ h => absurd h List.not_mem_nil)⟩)⟩)⟩)⟩) (ih25200 y25205 x25122 (by omega) (by omega) (by omega) (by omega))
        · skip
          refine g_aload_n hk dX12_rankOf_20 rfl ?_
          refine gM_r0_48 hk hin12 (List.mem_cons_of_mem _ (List.mem_append_left _ (List.mem_of_getElem? (i := 0) rfl))) dX12_rankOf_21 ?_
          refine g_iload_n hk dX12_rankOf_24 rfl ?_
          refine lM_24 (v := (A 24 x25121.toNatClampNeg)) hk (vp_in_iff.mpr ⟨by omega, by omega⟩) rfl dX12_rankOf_25 ?_
          refine g_aload_n hk dX12_rankOf_26 rfl ?_
          refine gM_r0_48 hk hin12 (List.mem_cons_of_mem _ (List.mem_append_left _ (List.mem_of_getElem? (i := 0) rfl))) dX12_rankOf_27 ?_
          refine g_iload_n hk dX12_rankOf_30 rfl ?_
          refine lM_24 (v := (A 24 z1.toNatClampNeg)) hk (vp_in_iff.mpr ⟨by omega, by omega⟩) rfl dX12_rankOf_31 ?_
          have b25207l := Int32.le_toInt (A 24 z1.toNatClampNeg)
          have b25207h := Int32.toInt_lt (A 24 z1.toNatClampNeg)
          refine g_icmp_lt (tgt := 55) (a := (A 24 x25121.toNatClampNeg).toInt) (b := (A 24 z1.toNatClampNeg).toInt) hk dX12_rankOf_32 (by decide) rfl rfl (fun c25208 => ?_) (fun c25208 => ?_)
          · skip
            have b25209l := Int32.le_toInt x25122
            have b25209h := Int32.toInt_lt x25122
            obtain ⟨y25210, ey25210⟩ : ∃ y : Int32, y = x25122 + Int32.ofInt 1 := ⟨_, rfl⟩
            refine g_iinc (v := y25210) (lv' := [(2, .int y25210), (3, .int x25121), (0, .ref (r 0)), (1, .int z1)]) hk 1 dX12_rankOf_55 rfl ey25210.symm (by decide) rfl ?_
            obtain ⟨y25211, ey25211⟩ : ∃ y : Int32, y = x25121 + Int32.ofInt 1 := ⟨_, rfl⟩
            have hy25211 : y25211.toInt = x25121.toInt + 1 := i32_add ey25211 rfl (by decide) (by omega) (by omega)
            refine g_iinc (v := y25211) (lv' := [(3, .int y25211), (2, .int y25210), (0, .ref (r 0)), (1, .int z1)]) hk 1 dX12_rankOf_58 rfl ey25211.symm (by decide) rfl ?_
            refine g_goto (tgt := 4) hk dX12_rankOf_61 (by decide) ?_
            have b25212l := Int32.le_toInt y25210
            have b25212h := Int32.toInt_lt y25210
            exact g_lv (List.forall_mem_cons.mpr ⟨List.mem_of_getElem? (i := 0) rfl, (List.forall_mem_cons.mpr ⟨List.mem_of_getElem? (i := 1) rfl, (List.forall_mem_cons.mpr ⟨List.mem_of_getElem? (i := 2) rfl, (List.forall_mem_cons.mpr ⟨List.mem_of_getElem? (i := 3) rfl, (fun _ h => absurd h List.not_mem_nil)⟩)⟩)⟩)⟩) (ih25200 y25211 y25210 (by omega) (by omega) (by omega) (by omega))
          · skip
            refine g_aload_n hk dX12_rankOf_35 rfl ?_
            refine gM_r0_48 hk hin12 (List.mem_cons_of_mem _ (List.mem_append_left _ (List.mem_of_getElem? (i := 0) rfl))) dX12_rankOf_36 ?_
            refine g_iload_n hk dX12_rankOf_39 rfl ?_
            refine lM_24 (v := (A 24 x25121.toNatClampNeg)) hk (vp_in_iff.mpr ⟨by omega, by omega⟩) rfl dX12_rankOf_40 ?_
            refine g_aload_n hk dX12_rankOf_41 rfl ?_
            refine gM_r0_48 hk hin12 (List.mem_cons_of_mem _ (List.mem_append_left _ (List.mem_of_getElem? (i := 0) rfl))) dX12_rankOf_42 ?_
            refine g_iload_n hk dX12_rankOf_45 rfl ?_
            refine lM_24 (v := (A 24 z1.toNatClampNeg)) hk (vp_in_iff.mpr ⟨by omega, by omega⟩) rfl dX12_rankOf_46 ?_
            refine g_icmp_ne (tgt := 58) (a := (A 24 x25121.toNatClampNeg).toInt) (b := (A 24 z1.toNatClampNeg).toInt) hk dX12_rankOf_47 (by decide) rfl rfl (fun c25213 => ?_) (fun c25213 => ?_)
            · skip
              obtain ⟨y25214, ey25214⟩ : ∃ y : Int32, y = x25121 + Int32.ofInt 1 := ⟨_, rfl⟩
              have hy25214 : y25214.toInt = x25121.toInt + 1 := i32_add ey25214 rfl (by decide) (by omega) (by omega)
              refine g_iinc (v := y25214) (lv' := [(3, .int y25214), (2, .int x25122), (0, .ref (r 0)), (1, .int z1)]) hk 0 dX12_rankOf_58 rfl ey25214.symm (by decide) rfl ?_
              refine g_goto (tgt := 4) hk dX12_rankOf_61 (by decide) ?_
              have b25215l := Int32.le_toInt x25122
              have b25215h := Int32.toInt_lt x25122
              exact g_lv (List.forall_mem_cons.mpr ⟨List.mem_of_getElem? (i := 0) rfl, (List.forall_mem_cons.mpr ⟨List.mem_of_getElem? (i := 1) rfl, (List.forall_mem_cons.mpr ⟨List.mem_of_getElem? (i := 2) rfl, (List.forall_mem_cons.mpr ⟨List.mem_of_getElem? (i := 3) rfl, (fun _ h => absurd h List.not_mem_nil)⟩)⟩)⟩)⟩) (ih25200 y25214 x25122 (by omega) (by omega) (by omega) (by omega))
            · skip
              refine g_iload_n hk dX12_rankOf_50 rfl ?_
              refine g_iload_n hk dX12_rankOf_51 rfl ?_
              refine g_icmp_ge (tgt := 58) (a := x25121.toInt) (b := z1.toInt) hk dX12_rankOf_52 (by decide) rfl rfl (fun c25216 => ?_) (fun c25216 => ?_)
              · skip
                obtain ⟨y25217, ey25217⟩ : ∃ y : Int32, y = x25121 + Int32.ofInt 1 := ⟨_, rfl⟩
                have hy25217 : y25217.toInt = x25121.toInt + 1 := i32_add ey25217 rfl (by decide) (by omega) (by omega)
                refine g_iinc (v := y25217) (lv' := [(3, .int y25217), (2, .int x25122), (0, .ref (r 0)), (1, .int z1)]) hk 0 dX12_rankOf_58 rfl ey25217.symm (by decide) rfl ?_
                refine g_goto (tgt := 4) hk dX12_rankOf_61 (by decide) ?_
                have b25218l := Int32.le_toInt x25122
                have b25218h := Int32.toInt_lt x25122
                exact g_lv (List.forall_mem_cons.mpr ⟨List.mem_of_getElem? (i := 0) rfl, (List.forall_mem_cons.mpr ⟨List.mem_of_getElem? (i := 1) rfl, (List.forall_mem_cons.mpr ⟨List.mem_of_getElem? (i := 2) rfl, (List.forall_mem_cons.mpr ⟨List.mem_of_getElem? (i := 3) rfl, (fun _ h => absurd h List.not_mem_nil)⟩)⟩)⟩)⟩) (ih25200 y25217 x25122 (by omega) (by omega) (by omega) (by omega))
              · skip
                have b25219l := Int32.le_toInt x25122
                have b25219h := Int32.toInt_lt x25122
                obtain ⟨y25220, ey25220⟩ : ∃ y : Int32, y = x25122 + Int32.ofInt 1 := ⟨_, rfl⟩
                refine g_iinc (v := y25220) (lv' := [(2, .int y25220), (3, .int x25121), (0, .ref (r 0)), (1, .int z1)]) hk 1 dX12_rankOf_55 rfl ey25220.symm (by decide) rfl ?_
                obtain ⟨y25221, ey25221⟩ : ∃ y : Int32, y = x25121 + Int32.ofInt 1 := ⟨_, rfl⟩
                have hy25221 : y25221.toInt = x25121.toInt + 1 := i32_add ey25221 rfl (by decide) (by omega) (by omega)
                refine g_iinc (v := y25221) (lv' := [(3, .int y25221), (2, .int y25220), (0, .ref (r 0)), (1, .int z1)]) hk 1 dX12_rankOf_58 rfl ey25221.symm (by decide) rfl ?_
                refine g_goto (tgt := 4) hk dX12_rankOf_61 (by decide) ?_
                have b25222l := Int32.le_toInt y25220
                have b25222h := Int32.toInt_lt y25220
                exact g_lv (List.forall_mem_cons.mpr ⟨List.mem_of_getElem? (i := 0) rfl, (List.forall_mem_cons.mpr ⟨List.mem_of_getElem? (i := 1) rfl, (List.forall_mem_cons.mpr ⟨List.mem_of_getElem? (i := 2) rfl, (List.forall_mem_cons.mpr ⟨List.mem_of_getElem? (i := 3) rfl, (fun _ h => absurd h List.not_mem_nil)⟩)⟩)⟩)⟩) (ih25200 y25221 y25220 (by omega) (by omega) (by omega) (by omega))
  have k25223 : (0 : Int32).toInt = 0 := rfl
  obtain ⟨n25224, n25224a, n25224b⟩ : ∃ n : Nat, 161 - (0 : Int32).toInt < (n : Int) ∧ 0 < n := ⟨((161 - (0 : Int32).toInt : Int)).toNat + 1, by omega, by omega⟩
  exact lp25197 n25224 0 0 (by omega) (by omega) n25224a n25224b
def wo_j206_X12_rank : List Cond := [Cond.methodLink RX12 342 yX12_isOf, Cond.instanceMethod yX12_isOf, Cond.selects RX12 yX12_isOf yX12_isOf, Cond.initialized RX12, Cond.methodLink RX12 357 yX12_fillsFar, Cond.instanceMethod yX12_fillsFar, Cond.selects RX12 yX12_fillsFar yX12_fillsFar, Cond.methodLink RX12 375 yX12_rankOf, Cond.instanceMethod yX12_rankOf, Cond.selects RX12 yX12_rankOf yX12_rankOf]
def wz_j206_X12_rank : List Cond := .code yX12_rank cX12_rank 3 (some .int) :: (wo_j206_X12_rank ++ (wz_j168_X12_isOf ++ (wz_j186_X12_fillsFar ++ (wz_j207_X12_rankOf ++ ([] : List Cond)))))
theorem zg_j206_X12_rank : ∀ w ∈ wz_j206_X12_rank, goodWord w = true := zg_cons rfl (zg_app (by decide +kernel) (zg_app zg_j168_X12_isOf (zg_app zg_j186_X12_fillsFar (zg_app zg_j207_X12_rankOf zg_nil))))
theorem zi_j206_X12_rank : ∀ w ∈ wz_j206_X12_rank, w ∈ lw_tbl := zi_cons zw_1887 (zi_app (zi_cons zw_1755 (zi_cons zw_1757 (zi_cons zw_78 (zi_cons zw_115 (zi_cons zw_1844 (zi_cons zw_1846 (zi_cons zw_93 (zi_cons zw_1888 (zi_cons zw_1890 (zi_cons zw_98 zi_nil)))))))))) (zi_app zi_j168_X12_isOf (zi_app zi_j186_X12_fillsFar (zi_app zi_j207_X12_rankOf zi_nil))))
set_option maxHeartbeats 4000000 in
set_option maxRecDepth 100000 in
theorem j206_X12_rank (l : Launch) (D : va_G) (zt : Nat × Nat × Nat × (Nat → Nat) × (Nat → Nat)) (r : Nat → Nat) (g : Nat → ClassId) (I : Nat → Int32) (A : Nat → Nat → Int32) (L : Nat → Nat → Int64) (z1 : Int32) (z2 : Int32) (hIv : IvM I A) : GM l D zt (tyM g) yX12_rank wz_j206_X12_rank ({ frames := 7, cells := 0, slots := 0, locals := 156 } : Room) [.ref (r 0), .int z1, .int z2] (wM r g I A L) (fun v _ w' => ∃ (I' : Nat → Int32) (A' : Nat → Nat → Int32) (L' : Nat → Nat → Int64), Md [18, 19, 20] I I' ∧ Md [18, 19, 20, 21, 24] A A' ∧ IvM I' A' ∧ ∃ y0 : Int32, v = some (.int y0) ∧ w' = wM r g I' A' L') 0 0 := by
  refine GM.of (cc := cX12_rank) (maxL := 3) (ret := (some .int)) (own := RX12) (lv := [(0, .ref (r 0)), (1, .int z1), (2, .int z2)]) (by decide) rfl rfl (Nat.le_of_ble_eq_true rfl) rfl (fun κ sz hk hR hN => ?_)
  refine g_aload_n hk dX12_rank_0 rfl ?_
  refine g_iload_n hk dX12_rank_1 rfl ?_
  refine g_iload_n hk dX12_rank_2 rfl ?_
  refine g_callV (n := 2) hk (j168_X12_isOf l D zt r g I A L z1 z2 hIv) (SP.same _) (fun _ h => h) (gi_V (List.mem_cons_of_mem _ (List.mem_append_left _ (List.mem_of_getElem? (i := 0) rfl))) (List.mem_cons_of_mem _ (List.mem_append_left _ (List.mem_of_getElem? (i := 1) rfl))) (List.mem_cons_of_mem _ (List.mem_append_left _ (List.mem_of_getElem? (i := 2) rfl))) (List.mem_cons_of_mem _ (List.mem_append_left _ (List.mem_of_getElem? (i := 3) rfl))) (gi_sub (fun w h => (List.mem_cons_of_mem _ (List.mem_append_right _ (List.mem_append_left _ h)))) zg_j168_X12_isOf)) rfl rfl rfl (by decide +kernel) ⟨Nat.le_of_ble_eq_true rfl, Nat.le_of_ble_eq_true rfl⟩ 0 rfl rfl rfl rfl (Nat.le_of_ble_eq_true rfl) ⟨Nat.le_of_ble_eq_true rfl, Nat.le_of_ble_eq_true rfl⟩ dX12_rank_3 (fun v ty' w' hp hk' => ?_)
  rcases hp with ⟨rfl, rfl⟩ | ⟨c25104, c25105, c25106, c25107, c25108, c25109, c25110, c25111, c25112, c25113, c25114, c25115, rfl, rfl⟩
  · skip
    show GW κ 3 0 0 (wM r g I A L) 6 [(0, .ref (r 0)), (1, .int z1), (2, .int z2)] [.int 0]
    refine g_if_ne (tgt := 11) (a := 0) hk dX12_rank_6 (by decide) rfl (fun z9 => absurd z9 (show ¬ ((0 : Int) ≠ (0 : Int)) from by decide)) (fun _ => ?_)
    refine g_iconst (v := (-1)) hk dX12_rank_9 (by decide) ?_
    exact g_iret hk hR rfl ⟨I, A, L, (show Md [18, 19, 20] I I from Md.rf), (show Md [18, 19, 20, 21, 24] A A from Md.rf), hIv, (-1), rfl, rfl⟩ dX12_rank_10
  · skip
    have f25117 : 0 ≤ (A 11 (5 * (I 15) + z1).toNatClampNeg).toInt ∧ (A 11 (5 * (I 15) + z1).toNatClampNeg).toInt ≤ 16 := IvM_a11 hIv _
    show GW κ 3 0 0 (wM r g I A L) 6 [(0, .ref (r 0)), (1, .int z1), (2, .int z2)] [.int 1]
    refine g_if_ne (tgt := 11) (a := 1) hk dX12_rank_6 (by decide) rfl (fun _ => ?_) (fun z9 => absurd (show (1 : Int) ≠ (0 : Int) from by decide) z9)
    refine g_aload_n hk dX12_rank_11 rfl ?_
    refine g_iload_n hk dX12_rank_12 rfl ?_
    refine g_callV (n := 1) hk (j186_X12_fillsFar l D zt r g I A L z1 hIv (by omega) (by omega)) (SP.same _) (fun _ h => h) (gi_V (List.mem_cons_of_mem _ (List.mem_append_left _ (List.mem_of_getElem? (i := 4) rfl))) (List.mem_cons_of_mem _ (List.mem_append_left _ (List.mem_of_getElem? (i := 5) rfl))) (List.mem_cons_of_mem _ (List.mem_append_left _ (List.mem_of_getElem? (i := 6) rfl))) (List.mem_cons_of_mem _ (List.mem_append_left _ (List.mem_of_getElem? (i := 3) rfl))) (gi_sub (fun w h => (List.mem_cons_of_mem _ (List.mem_append_right _ (List.mem_append_right _ (List.mem_append_left _ h))))) zg_j186_X12_fillsFar)) rfl rfl rfl (by decide +kernel) ⟨Nat.le_of_ble_eq_true rfl, Nat.le_of_ble_eq_true rfl⟩ 0 rfl rfl rfl rfl (Nat.le_of_ble_eq_true rfl) ⟨Nat.le_of_ble_eq_true rfl, Nat.le_of_ble_eq_true rfl⟩ dX12_rank_13 (fun v ty' w' hp hk' => ?_)
    obtain ⟨I25119, A25119, L25119, hI25119, hA25119, hV25119, r25120, rfl, rfl⟩ := hp
    show GW κ 3 0 0 (wM r g I25119 A25119 L25119) 16 [(0, .ref (r 0)), (1, .int z1), (2, .int z2)] []
    refine g_aload_n hk dX12_rank_16 rfl ?_
    refine g_iload_n hk dX12_rank_17 rfl ?_
    refine g_callV (n := 1) hk (j207_X12_rankOf l D zt r g I25119 A25119 L25119 z2 hV25119 (by omega) (by omega)) (SP.same _) (fun _ h => h) (gi_V (List.mem_cons_of_mem _ (List.mem_append_left _ (List.mem_of_getElem? (i := 7) rfl))) (List.mem_cons_of_mem _ (List.mem_append_left _ (List.mem_of_getElem? (i := 8) rfl))) (List.mem_cons_of_mem _ (List.mem_append_left _ (List.mem_of_getElem? (i := 9) rfl))) (List.mem_cons_of_mem _ (List.mem_append_left _ (List.mem_of_getElem? (i := 3) rfl))) (gi_sub (fun w h => (List.mem_cons_of_mem _ (List.mem_append_right _ (List.mem_append_right _ (List.mem_append_right _ (List.mem_append_left _ h)))))) zg_j207_X12_rankOf)) rfl rfl rfl (by decide +kernel) ⟨Nat.le_of_ble_eq_true rfl, Nat.le_of_ble_eq_true rfl⟩ 0 rfl rfl rfl rfl (Nat.le_of_ble_eq_true rfl) ⟨Nat.le_of_ble_eq_true rfl, Nat.le_of_ble_eq_true rfl⟩ dX12_rank_18 (fun v ty' w' hp hk' => ?_)
    obtain ⟨y25225, rfl, rfl⟩ := hp
    show GW κ 3 0 0 (wM r g I25119 A25119 L25119) 21 [(0, .ref (r 0)), (1, .int z1), (2, .int z2)] [.int y25225]
    have b25226l := Int32.le_toInt y25225
    have b25226h := Int32.toInt_lt y25225
    exact g_iret hk hR rfl ⟨I25119, A25119, L25119, (show Md [18, 19, 20] I I25119 from (Md.tr Md.rf hI25119 rfl)), (show Md [18, 19, 20, 21, 24] A A25119 from (Md.tr Md.rf hA25119 rfl)), hV25119, y25225, rfl, rfl⟩ dX12_rank_21
def wo_j208_X12_kth : List Cond := [Cond.methodLink RX12 251 yX12_isQuery, Cond.instanceMethod yX12_isQuery, Cond.selects RX12 yX12_isQuery yX12_isQuery, Cond.initialized RX12, Cond.methodLink RX12 244 yX12_in, Cond.static yX12_in, Cond.methodLink RX12 357 yX12_fillsFar, Cond.instanceMethod yX12_fillsFar, Cond.selects RX12 yX12_fillsFar yX12_fillsFar, Cond.fieldLink RX12 91 "WarpDeskModel" "farBy" "[I", Cond.methodLink RX12 375 yX12_rankOf, Cond.instanceMethod yX12_rankOf, Cond.selects RX12 yX12_rankOf yX12_rankOf]
def wz_j208_X12_kth : List Cond := .code yX12_kth cX12_kth 5 (some .int) :: (wo_j208_X12_kth ++ (wsX120 ++ (wz_j147_X12_isQuery ++ (wz_j145_X12_in ++ (wz_j186_X12_fillsFar ++ (wz_j207_X12_rankOf ++ ([] : List Cond)))))))
theorem zg_j208_X12_kth : ∀ w ∈ wz_j208_X12_kth, goodWord w = true := zg_cons rfl (zg_app (by decide +kernel) (zg_app zgU_wsX120 (zg_app zg_j147_X12_isQuery (zg_app zg_j145_X12_in (zg_app zg_j186_X12_fillsFar (zg_app zg_j207_X12_rankOf zg_nil))))))
theorem zi_j208_X12_kth : ∀ w ∈ wz_j208_X12_kth, w ∈ lw_tbl := zi_cons zw_1895 (zi_app (zi_cons zw_1663 (zi_cons zw_1665 (zi_cons zw_67 (zi_cons zw_115 (zi_cons zw_1656 (zi_cons zw_1657 (zi_cons zw_1844 (zi_cons zw_1846 (zi_cons zw_93 (zi_cons zw_1426 (zi_cons zw_1888 (zi_cons zw_1890 (zi_cons zw_98 zi_nil))))))))))))) (zi_app inX12 (zi_app zi_j147_X12_isQuery (zi_app zi_j145_X12_in (zi_app zi_j186_X12_fillsFar (zi_app zi_j207_X12_rankOf zi_nil))))))
set_option maxHeartbeats 4000000 in
set_option maxRecDepth 100000 in
theorem j208_X12_kth (l : Launch) (D : va_G) (zt : Nat × Nat × Nat × (Nat → Nat) × (Nat → Nat)) (r : Nat → Nat) (g : Nat → ClassId) (I : Nat → Int32) (A : Nat → Nat → Int32) (L : Nat → Nat → Int64) (z1 : Int32) (z2 : Int32) (z3 : Int32) (hIv : IvM I A) : GM l D zt (tyM g) yX12_kth wz_j208_X12_kth ({ frames := 7, cells := 0, slots := 0, locals := 156 } : Room) [.ref (r 0), .int z1, .int z2, .int z3] (wM r g I A L) (fun v _ w' => ∃ (I' : Nat → Int32) (A' : Nat → Nat → Int32) (L' : Nat → Nat → Int64), Md [18, 19, 20] I I' ∧ Md [18, 19, 20, 21, 24] A A' ∧ IvM I' A' ∧ ∃ y0 : Int32, ((-2) ≤ y0.toInt) ∧ v = some (.int y0) ∧ w' = wM r g I' A' L') 0 0 := by
  refine GM.of (cc := cX12_kth) (maxL := 5) (ret := (some .int)) (own := RX12) (lv := [(0, .ref (r 0)), (1, .int z1), (2, .int z2), (3, .int z3)]) (by decide) rfl rfl (Nat.le_of_ble_eq_true rfl) rfl (fun κ sz hk hR hN => ?_)
  have hin12 : ∀ w ∈ u_ws RX12 TX12 55, w ∈ wz_j208_X12_kth := fun w h => (List.mem_cons_of_mem _ (List.mem_append_right _ (List.mem_append_left _ h)))
  refine g_aload_n hk dX12_kth_0 rfl ?_
  refine g_iload_n hk dX12_kth_1 rfl ?_
  refine g_callV (n := 1) hk (j147_X12_isQuery l D zt r g I A L z1 hIv) (SP.same _) (fun _ h => h) (gi_V (List.mem_cons_of_mem _ (List.mem_append_left _ (List.mem_of_getElem? (i := 0) rfl))) (List.mem_cons_of_mem _ (List.mem_append_left _ (List.mem_of_getElem? (i := 1) rfl))) (List.mem_cons_of_mem _ (List.mem_append_left _ (List.mem_of_getElem? (i := 2) rfl))) (List.mem_cons_of_mem _ (List.mem_append_left _ (List.mem_of_getElem? (i := 3) rfl))) (gi_sub (fun w h => (List.mem_cons_of_mem _ (List.mem_append_right _ (List.mem_append_right _ (List.mem_append_left _ h))))) zg_j147_X12_isQuery)) rfl rfl rfl (by decide +kernel) ⟨Nat.le_of_ble_eq_true rfl, Nat.le_of_ble_eq_true rfl⟩ 0 rfl rfl rfl rfl (Nat.le_of_ble_eq_true rfl) ⟨Nat.le_of_ble_eq_true rfl, Nat.le_of_ble_eq_true rfl⟩ dX12_kth_2 (fun v ty' w' hp hk' => ?_)
  rcases hp with ⟨rfl, rfl⟩ | ⟨c25228, c25229, c25230, c25231, rfl, rfl⟩
  · skip
    show GW κ 5 0 0 (wM r g I A L) 5 [(0, .ref (r 0)), (1, .int z1), (2, .int z2), (3, .int z3)] [.int 0]
    refine g_if_eq (tgt := 21) (a := 0) hk dX12_kth_5 (by decide) rfl (fun _ => ?_) (fun z9 => absurd (show (0 : Int) = (0 : Int) from by decide) z9)
    refine g_iconst (v := (-1)) hk dX12_kth_21 (by decide) ?_
    exact g_iret hk hR rfl ⟨I, A, L, (show Md [18, 19, 20] I I from Md.rf), (show Md [18, 19, 20, 21, 24] A A from Md.rf), hIv, (-1), (by decide), rfl, rfl⟩ dX12_kth_22
  · skip
    have f25233 : 0 ≤ (A 11 (5 * (I 15) + z1).toNatClampNeg).toInt ∧ (A 11 (5 * (I 15) + z1).toNatClampNeg).toInt ≤ 16 := IvM_a11 hIv _
    show GW κ 5 0 0 (wM r g I A L) 5 [(0, .ref (r 0)), (1, .int z1), (2, .int z2), (3, .int z3)] [.int 1]
    refine g_if_eq (tgt := 21) (a := 1) hk dX12_kth_5 (by decide) rfl (fun z9 => absurd z9 (show ¬ ((1 : Int) = (0 : Int)) from by decide)) (fun _ => ?_)
    refine g_iload_n hk dX12_kth_8 rfl ?_
    have b25234l := Int32.le_toInt z2
    have b25234h := Int32.toInt_lt z2
    refine g_if_lt (tgt := 21) (a := z2.toInt) hk dX12_kth_9 (by decide) rfl (fun c25235 => ?_) (fun c25235 => ?_)
    · skip
      refine g_iconst (v := (-1)) hk dX12_kth_21 (by decide) ?_
      exact g_iret hk hR rfl ⟨I, A, L, (show Md [18, 19, 20] I I from Md.rf), (show Md [18, 19, 20, 21, 24] A A from Md.rf), hIv, (-1), (by decide), rfl, rfl⟩ dX12_kth_22
    · skip
      refine g_iload_n hk dX12_kth_12 rfl ?_
      refine g_iconst (v := 0) hk dX12_kth_13 (by decide) ?_
      refine g_iconst (v := 1) hk dX12_kth_14 (by decide) ?_
      have k25236 : (0 : Int32).toInt = 0 := rfl
      have k25237 : (1 : Int32).toInt = 1 := rfl
      refine g_callS (n := 3) hk (j145_X12_in l D zt r g I A L z3 0 1 hIv) (SP.same _) (fun _ h => h) (gi_S (List.mem_cons_of_mem _ (List.mem_append_left _ (List.mem_of_getElem? (i := 4) rfl))) (List.mem_cons_of_mem _ (List.mem_append_left _ (List.mem_of_getElem? (i := 5) rfl))) (List.mem_cons_of_mem _ (List.mem_append_left _ (List.mem_of_getElem? (i := 3) rfl))) (gi_sub (fun w h => (List.mem_cons_of_mem _ (List.mem_append_right _ (List.mem_append_right _ (List.mem_append_right _ (List.mem_append_left _ h)))))) zg_j145_X12_in)) rfl rfl rfl (by decide +kernel) ⟨Nat.le_of_ble_eq_true rfl, Nat.le_of_ble_eq_true rfl⟩ rfl rfl (Nat.le_of_ble_eq_true rfl) ⟨Nat.le_of_ble_eq_true rfl, Nat.le_of_ble_eq_true rfl⟩ dX12_kth_15 (fun v ty' w' hp hk' => ?_)
      rcases hp with ⟨c25238, rfl, rfl⟩ | ⟨c25240, c25241, rfl, rfl⟩
      · skip
        have b25243l := Int32.le_toInt z3
        have b25243h := Int32.toInt_lt z3
        show GW κ 5 0 0 (wM r g I A L) 18 [(0, .ref (r 0)), (1, .int z1), (2, .int z2), (3, .int z3)] [.int 0]
        refine g_if_ne (tgt := 23) (a := 0) hk dX12_kth_18 (by decide) rfl (fun z9 => absurd z9 (show ¬ ((0 : Int) ≠ (0 : Int)) from by decide)) (fun _ => ?_)
        refine g_iconst (v := (-1)) hk dX12_kth_21 (by decide) ?_
        exact g_iret hk hR rfl ⟨I, A, L, (show Md [18, 19, 20] I I from Md.rf), (show Md [18, 19, 20, 21, 24] A A from Md.rf), hIv, (-1), (by decide), rfl, rfl⟩ dX12_kth_22
      · skip
        show GW κ 5 0 0 (wM r g I A L) 18 [(0, .ref (r 0)), (1, .int z1), (2, .int z2), (3, .int z3)] [.int 1]
        refine g_if_ne (tgt := 23) (a := 1) hk dX12_kth_18 (by decide) rfl (fun _ => ?_) (fun z9 => absurd (show (1 : Int) ≠ (0 : Int) from by decide) z9)
        refine g_aload_n hk dX12_kth_23 rfl ?_
        refine g_iload_n hk dX12_kth_24 rfl ?_
        refine g_callV (n := 1) hk (j186_X12_fillsFar l D zt r g I A L z1 hIv (by omega) (by omega)) (SP.same _) (fun _ h => h) (gi_V (List.mem_cons_of_mem _ (List.mem_append_left _ (List.mem_of_getElem? (i := 6) rfl))) (List.mem_cons_of_mem _ (List.mem_append_left _ (List.mem_of_getElem? (i := 7) rfl))) (List.mem_cons_of_mem _ (List.mem_append_left _ (List.mem_of_getElem? (i := 8) rfl))) (List.mem_cons_of_mem _ (List.mem_append_left _ (List.mem_of_getElem? (i := 3) rfl))) (gi_sub (fun w h => (List.mem_cons_of_mem _ (List.mem_append_right _ (List.mem_append_right _ (List.mem_append_right _ (List.mem_append_right _ (List.mem_append_left _ h))))))) zg_j186_X12_fillsFar)) rfl rfl rfl (by decide +kernel) ⟨Nat.le_of_ble_eq_true rfl, Nat.le_of_ble_eq_true rfl⟩ 0 rfl rfl rfl rfl (Nat.le_of_ble_eq_true rfl) ⟨Nat.le_of_ble_eq_true rfl, Nat.le_of_ble_eq_true rfl⟩ dX12_kth_25 (fun v ty' w' hp hk' => ?_)
        obtain ⟨I25245, A25245, L25245, hI25245, hA25245, hV25245, r25246, rfl, rfl⟩ := hp
        show GW κ 5 0 0 (wM r g I25245 A25245 L25245) 28 [(0, .ref (r 0)), (1, .int z1), (2, .int z2), (3, .int z3)] []
        refine g_iconst (v := 0) hk dX12_kth_28 (by decide) ?_
        refine g_istore (lv' := [(4, .int 0), (0, .ref (r 0)), (1, .int z1), (2, .int z2), (3, .int z3)]) hk dX12_kth_29 (by decide) rfl ?_
        have lp25288 : ∀ (n25289 : Nat) (x25247 : Int32), (0 ≤ x25247.toInt) → (x25247.toInt ≤ 160) → (161 - x25247.toInt < (n25289 : Int)) → (0 < n25289) → GW κ 5 0 0 (wM r g I25245 A25245 L25245) 31 [(4, .int x25247), (0, .ref (r 0)), (1, .int z1), (2, .int z2), (3, .int z3)] [] := by
          intro n25289
          induction n25289 with
          | zero =>
            intro x25247 h25286 h25287 m25290 m25290z
            exact absurd m25290z (Nat.lt_irrefl 0)
          | succ n25289 ih25291 =>
            intro x25247 h25286 h25287 m25290 m25290z
            refine g_iload hk dX12_kth_31 rfl ?_
            refine g_sipush (v := 160) hk dX12_kth_33 (by decide) ?_
            refine g_icmp_ge (tgt := 82) (a := x25247.toInt) (b := 160) hk dX12_kth_36 (by decide) rfl rfl (fun c25292 => ?_) (fun c25292 => ?_)
            · skip
              refine g_bipush (v := (-2)) hk dX12_kth_82 (by decide) ?_
              exact g_iret hk hR rfl ⟨I25245, A25245, L25245, (show Md [18, 19, 20] I I25245 from (Md.tr Md.rf hI25245 rfl)), (show Md [18, 19, 20, 21, 24] A A25245 from (Md.tr Md.rf hA25245 rfl)), hV25245, (-2), (by decide), rfl, rfl⟩ dX12_kth_84
            · skip
              refine g_aload_n hk dX12_kth_39 rfl ?_
              refine gM_r0_48 hk hin12 (List.mem_cons_of_mem _ (List.mem_append_left _ (List.mem_of_getElem? (i := 9) rfl))) dX12_kth_40 ?_
              refine g_iload hk dX12_kth_43 rfl ?_
              refine lM_24 (v := (A25245 24 x25247.toNatClampNeg)) hk (vp_in_iff.mpr ⟨by omega, by omega⟩) rfl dX12_kth_45 ?_
              have b25293l := Int32.le_toInt (A25245 24 x25247.toNatClampNeg)
              have b25293h := Int32.toInt_lt (A25245 24 x25247.toNatClampNeg)
              refine g_if_lt (tgt := 76) (a := (A25245 24 x25247.toNatClampNeg).toInt) hk dX12_kth_46 (by decide) rfl (fun c25294 => ?_) (fun c25294 => ?_)
              · skip
                obtain ⟨y25295, ey25295⟩ : ∃ y : Int32, y = x25247 + Int32.ofInt 1 := ⟨_, rfl⟩
                have hy25295 : y25295.toInt = x25247.toInt + 1 := i32_add ey25295 rfl (by decide) (by omega) (by omega)
                refine g_iinc (v := y25295) (lv' := [(4, .int y25295), (0, .ref (r 0)), (1, .int z1), (2, .int z2), (3, .int z3)]) hk 0 dX12_kth_76 rfl ey25295.symm (by decide) rfl ?_
                refine g_goto (tgt := 31) hk dX12_kth_79 (by decide) ?_
                exact g_lv (List.forall_mem_cons.mpr ⟨List.mem_of_getElem? (i := 0) rfl, (List.forall_mem_cons.mpr ⟨List.mem_of_getElem? (i := 1) rfl, (List.forall_mem_cons.mpr ⟨List.mem_of_getElem? (i := 2) rfl, (List.forall_mem_cons.mpr ⟨List.mem_of_getElem? (i := 3) rfl, (List.forall_mem_cons.mpr ⟨List.mem_of_getElem? (i := 4) rfl, (fun _ h => absurd h List.not_mem_nil)⟩)⟩)⟩)⟩)⟩) (ih25291 y25295 (by omega) (by omega) (by omega) (by omega))
              · skip
                refine g_aload_n hk dX12_kth_49 rfl ?_
                refine g_iload hk dX12_kth_50 rfl ?_
                refine g_callV (n := 1) hk (j207_X12_rankOf l D zt r g I25245 A25245 L25245 x25247 hV25245 (by omega) (by omega)) (SP.same _) (fun _ h => h) (gi_V (List.mem_cons_of_mem _ (List.mem_append_left _ (List.mem_of_getElem? (i := 10) rfl))) (List.mem_cons_of_mem _ (List.mem_append_left _ (List.mem_of_getElem? (i := 11) rfl))) (List.mem_cons_of_mem _ (List.mem_append_left _ (List.mem_of_getElem? (i := 12) rfl))) (List.mem_cons_of_mem _ (List.mem_append_left _ (List.mem_of_getElem? (i := 3) rfl))) (gi_sub (fun w h => (List.mem_cons_of_mem _ (List.mem_append_right _ (List.mem_append_right _ (List.mem_append_right _ (List.mem_append_right _ (List.mem_append_right _ (List.mem_append_left _ h)))))))) zg_j207_X12_rankOf)) rfl rfl rfl (by decide +kernel) ⟨Nat.le_of_ble_eq_true rfl, Nat.le_of_ble_eq_true rfl⟩ 0 rfl rfl rfl rfl (Nat.le_of_ble_eq_true rfl) ⟨Nat.le_of_ble_eq_true rfl, Nat.le_of_ble_eq_true rfl⟩ dX12_kth_52 (fun v ty' w' hp hk' => ?_)
                obtain ⟨y25296, rfl, rfl⟩ := hp
                show GW κ 5 0 0 (wM r g I25245 A25245 L25245) 55 [(4, .int x25247), (0, .ref (r 0)), (1, .int z1), (2, .int z2), (3, .int z3)] [.int y25296]
                refine g_iload_n hk dX12_kth_55 rfl ?_
                have b25297l := Int32.le_toInt y25296
                have b25297h := Int32.toInt_lt y25296
                refine g_icmp_ne (tgt := 76) (a := y25296.toInt) (b := z2.toInt) hk dX12_kth_56 (by decide) rfl rfl (fun c25298 => ?_) (fun c25298 => ?_)
                · skip
                  obtain ⟨y25299, ey25299⟩ : ∃ y : Int32, y = x25247 + Int32.ofInt 1 := ⟨_, rfl⟩
                  have hy25299 : y25299.toInt = x25247.toInt + 1 := i32_add ey25299 rfl (by decide) (by omega) (by omega)
                  refine g_iinc (v := y25299) (lv' := [(4, .int y25299), (0, .ref (r 0)), (1, .int z1), (2, .int z2), (3, .int z3)]) hk 0 dX12_kth_76 rfl ey25299.symm (by decide) rfl ?_
                  refine g_goto (tgt := 31) hk dX12_kth_79 (by decide) ?_
                  exact g_lv (List.forall_mem_cons.mpr ⟨List.mem_of_getElem? (i := 0) rfl, (List.forall_mem_cons.mpr ⟨List.mem_of_getElem? (i := 1) rfl, (List.forall_mem_cons.mpr ⟨List.mem_of_getElem? (i := 2) rfl, (List.forall_mem_cons.mpr ⟨List.mem_of_getElem? (i := 3) rfl, (List.forall_mem_cons.mpr ⟨List.mem_of_getElem? (i := 4) rfl, (fun _ h => absurd h List.not_mem_nil)⟩)⟩)⟩)⟩)⟩) (ih25291 y25299 (by omega) (by omega) (by omega) (by omega))
                · skip
                  refine g_iload_n hk dX12_kth_59 rfl ?_
                  refine g_if_ne (tgt := 68) (a := z3.toInt) hk dX12_kth_60 (by decide) rfl (fun c25300 => ?_) (fun c25300 => ?_)
                  · skip
                    refine g_aload_n hk dX12_kth_68 rfl ?_
                    refine gM_r0_48 hk hin12 (List.mem_cons_of_mem _ (List.mem_append_left _ (List.mem_of_getElem? (i := 9) rfl))) dX12_kth_69 ?_
                    refine g_iload hk dX12_kth_72 rfl ?_
                    refine lM_24 (v := (A25245 24 x25247.toNatClampNeg)) hk (vp_in_iff.mpr ⟨by omega, by omega⟩) rfl dX12_kth_74 ?_
                    exact g_iret hk hR rfl ⟨I25245, A25245, L25245, (show Md [18, 19, 20] I I25245 from (Md.tr Md.rf hI25245 rfl)), (show Md [18, 19, 20, 21, 24] A A25245 from (Md.tr Md.rf hA25245 rfl)), hV25245, (A25245 24 x25247.toNatClampNeg), (by omega), rfl, rfl⟩ dX12_kth_75
                  · skip
                    refine g_iload hk dX12_kth_63 rfl ?_
                    refine g_goto (tgt := 75) hk dX12_kth_65 (by decide) ?_
                    exact g_iret hk hR rfl ⟨I25245, A25245, L25245, (show Md [18, 19, 20] I I25245 from (Md.tr Md.rf hI25245 rfl)), (show Md [18, 19, 20, 21, 24] A A25245 from (Md.tr Md.rf hA25245 rfl)), hV25245, x25247, (by omega), rfl, rfl⟩ dX12_kth_75
        obtain ⟨n25301, n25301a, n25301b⟩ : ∃ n : Nat, 161 - (0 : Int32).toInt < (n : Int) ∧ 0 < n := ⟨((161 - (0 : Int32).toInt : Int)).toNat + 1, by omega, by omega⟩
        exact lp25288 n25301 0 (by omega) (by omega) n25301a n25301b
def wo_j210_X12_greater : List Cond := []
def wz_j210_X12_greater : List Cond := .code yX12_greater cX12_greater 2 (some .int) :: (wo_j210_X12_greater ++ ([] : List Cond))
theorem zg_j210_X12_greater : ∀ w ∈ wz_j210_X12_greater, goodWord w = true := zg_cons rfl (zg_app (by decide +kernel) zg_nil)
theorem zi_j210_X12_greater : ∀ w ∈ wz_j210_X12_greater, w ∈ lw_tbl := zi_cons zw_1902 (zi_app zi_nil zi_nil)
set_option maxHeartbeats 4000000 in
set_option maxRecDepth 100000 in
theorem j210_X12_greater (l : Launch) (D : va_G) (zt : Nat × Nat × Nat × (Nat → Nat) × (Nat → Nat)) (r : Nat → Nat) (g : Nat → ClassId) (I : Nat → Int32) (A : Nat → Nat → Int32) (L : Nat → Nat → Int64) (z0 : Int32) (z1 : Int32) (hIv : IvM I A) : GM l D zt (tyM g) yX12_greater wz_j210_X12_greater ({ frames := 0, cells := 0, slots := 0, locals := 0 } : Room) [.int z0, .int z1] (wM r g I A L) (fun v _ w' => ∃ y0 : Int32, v = some (.int y0) ∧ w' = wM r g I A L) 0 0 := by
  refine GM.of (cc := cX12_greater) (maxL := 2) (ret := (some .int)) (own := RX12) (lv := [(0, .int z0), (1, .int z1)]) (by decide) rfl rfl (Nat.le_of_ble_eq_true rfl) rfl (fun κ sz hk hR hN => ?_)
  refine g_iload_n hk dX12_greater_0 rfl ?_
  refine g_iload_n hk dX12_greater_1 rfl ?_
  have b25343l := Int32.le_toInt z0
  have b25343h := Int32.toInt_lt z0
  have b25344l := Int32.le_toInt z1
  have b25344h := Int32.toInt_lt z1
  refine g_icmp_le (tgt := 9) (a := z0.toInt) (b := z1.toInt) hk dX12_greater_2 (by decide) rfl rfl (fun c25345 => ?_) (fun c25345 => ?_)
  · skip
    refine g_iload_n hk dX12_greater_9 rfl ?_
    exact g_iret hk hR rfl ⟨z1, rfl, rfl⟩ dX12_greater_10
  · skip
    refine g_iload_n hk dX12_greater_5 rfl ?_
    refine g_goto (tgt := 10) hk dX12_greater_6 (by decide) ?_
    exact g_iret hk hR rfl ⟨z0, rfl, rfl⟩ dX12_greater_10
def wo_j209_X12_slack : List Cond := [Cond.methodLink RX12 251 yX12_isQuery, Cond.instanceMethod yX12_isQuery, Cond.selects RX12 yX12_isQuery yX12_isQuery, Cond.initialized RX12, Cond.methodLink RX12 323 yX12_copies, Cond.instanceMethod yX12_copies, Cond.selects RX12 yX12_copies yX12_copies, Cond.methodLink RX12 342 yX12_isOf, Cond.instanceMethod yX12_isOf, Cond.selects RX12 yX12_isOf yX12_isOf, Cond.methodLink RX12 345 yX12_distanceOf, Cond.instanceMethod yX12_distanceOf, Cond.selects RX12 yX12_distanceOf yX12_distanceOf, Cond.methodLink RX12 314 yX12_endsOf, Cond.instanceMethod yX12_endsOf, Cond.selects RX12 yX12_endsOf yX12_endsOf, Cond.methodLink RX12 308 yX12_overOf, Cond.instanceMethod yX12_overOf, Cond.selects RX12 yX12_overOf yX12_overOf, Cond.methodLink RX12 317 yX12_backOf, Cond.instanceMethod yX12_backOf, Cond.selects RX12 yX12_backOf yX12_backOf, Cond.methodLink RX12 378 yX12_greater, Cond.static yX12_greater]
def wz_j209_X12_slack : List Cond := .code yX12_slack cX12_slack 5 (some .int) :: (wo_j209_X12_slack ++ (wz_j147_X12_isQuery ++ (wz_j151_X12_copies ++ (wz_j168_X12_isOf ++ (wz_j169_X12_distanceOf ++ (wz_j182_X12_endsOf ++ (wz_j181_X12_overOf ++ (wz_j180_X12_backOf ++ (wz_j210_X12_greater ++ ([] : List Cond))))))))))
theorem zg_j209_X12_slack : ∀ w ∈ wz_j209_X12_slack, goodWord w = true := zg_cons rfl (zg_app (by decide +kernel) (zg_app zg_j147_X12_isQuery (zg_app zg_j151_X12_copies (zg_app zg_j168_X12_isOf (zg_app zg_j169_X12_distanceOf (zg_app zg_j182_X12_endsOf (zg_app zg_j181_X12_overOf (zg_app zg_j180_X12_backOf (zg_app zg_j210_X12_greater zg_nil)))))))))
theorem zi_j209_X12_slack : ∀ w ∈ wz_j209_X12_slack, w ∈ lw_tbl := zi_cons zw_1899 (zi_app (zi_cons zw_1663 (zi_cons zw_1665 (zi_cons zw_67 (zi_cons zw_115 (zi_cons zw_1679 (zi_cons zw_1681 (zi_cons zw_70 (zi_cons zw_1755 (zi_cons zw_1757 (zi_cons zw_78 (zi_cons zw_1759 (zi_cons zw_1761 (zi_cons zw_79 (zi_cons zw_1803 (zi_cons zw_1805 (zi_cons zw_88 (zi_cons zw_1807 (zi_cons zw_1809 (zi_cons zw_89 (zi_cons zw_1812 (zi_cons zw_1814 (zi_cons zw_90 (zi_cons zw_1900 (zi_cons zw_1901 zi_nil)))))))))))))))))))))))) (zi_app zi_j147_X12_isQuery (zi_app zi_j151_X12_copies (zi_app zi_j168_X12_isOf (zi_app zi_j169_X12_distanceOf (zi_app zi_j182_X12_endsOf (zi_app zi_j181_X12_overOf (zi_app zi_j180_X12_backOf (zi_app zi_j210_X12_greater zi_nil)))))))))
set_option maxHeartbeats 4000000 in
set_option maxRecDepth 100000 in
theorem j209_X12_slack (l : Launch) (D : va_G) (zt : Nat × Nat × Nat × (Nat → Nat) × (Nat → Nat)) (r : Nat → Nat) (g : Nat → ClassId) (I : Nat → Int32) (A : Nat → Nat → Int32) (L : Nat → Nat → Int64) (z1 : Int32) (hIv : IvM I A) : GM l D zt (tyM g) yX12_slack wz_j209_X12_slack ({ frames := 6, cells := 0, slots := 0, locals := 134 } : Room) [.ref (r 0), .int z1] (wM r g I A L) (fun v _ w' => ∃ (I' : Nat → Int32) (A' : Nat → Nat → Int32) (L' : Nat → Nat → Int64), Md [18, 19, 20] I I' ∧ Md [18, 19, 20, 21] A A' ∧ IvM I' A' ∧ ∃ y0 : Int32, v = some (.int y0) ∧ w' = wM r g I' A' L') 0 0 := by
  refine GM.of (cc := cX12_slack) (maxL := 5) (ret := (some .int)) (own := RX12) (lv := [(0, .ref (r 0)), (1, .int z1)]) (by decide) rfl rfl (Nat.le_of_ble_eq_true rfl) rfl (fun κ sz hk hR hN => ?_)
  refine g_aload_n hk dX12_slack_0 rfl ?_
  refine g_iload_n hk dX12_slack_1 rfl ?_
  refine g_callV (n := 1) hk (j147_X12_isQuery l D zt r g I A L z1 hIv) (SP.same _) (fun _ h => h) (gi_V (List.mem_cons_of_mem _ (List.mem_append_left _ (List.mem_of_getElem? (i := 0) rfl))) (List.mem_cons_of_mem _ (List.mem_append_left _ (List.mem_of_getElem? (i := 1) rfl))) (List.mem_cons_of_mem _ (List.mem_append_left _ (List.mem_of_getElem? (i := 2) rfl))) (List.mem_cons_of_mem _ (List.mem_append_left _ (List.mem_of_getElem? (i := 3) rfl))) (gi_sub (fun w h => (List.mem_cons_of_mem _ (List.mem_append_right _ (List.mem_append_left _ h)))) zg_j147_X12_isQuery)) rfl rfl rfl (by decide +kernel) ⟨Nat.le_of_ble_eq_true rfl, Nat.le_of_ble_eq_true rfl⟩ 0 rfl rfl rfl rfl (Nat.le_of_ble_eq_true rfl) ⟨Nat.le_of_ble_eq_true rfl, Nat.le_of_ble_eq_true rfl⟩ dX12_slack_2 (fun v ty' w' hp hk' => ?_)
  rcases hp with ⟨rfl, rfl⟩ | ⟨c25303, c25304, c25305, c25306, rfl, rfl⟩
  · skip
    show GW κ 5 0 0 (wM r g I A L) 5 [(0, .ref (r 0)), (1, .int z1)] [.int 0]
    refine g_if_ne (tgt := 10) (a := 0) hk dX12_slack_5 (by decide) rfl (fun z9 => absurd z9 (show ¬ ((0 : Int) ≠ (0 : Int)) from by decide)) (fun _ => ?_)
    refine g_iconst (v := (-1)) hk dX12_slack_8 (by decide) ?_
    exact g_iret hk hR rfl ⟨I, A, L, (show Md [18, 19, 20] I I from Md.rf), (show Md [18, 19, 20, 21] A A from Md.rf), hIv, (-1), rfl, rfl⟩ dX12_slack_9
  · skip
    have f25308 : 0 ≤ (A 11 (5 * (I 15) + z1).toNatClampNeg).toInt ∧ (A 11 (5 * (I 15) + z1).toNatClampNeg).toInt ≤ 16 := IvM_a11 hIv _
    show GW κ 5 0 0 (wM r g I A L) 5 [(0, .ref (r 0)), (1, .int z1)] [.int 1]
    refine g_if_ne (tgt := 10) (a := 1) hk dX12_slack_5 (by decide) rfl (fun _ => ?_) (fun z9 => absurd (show (1 : Int) ≠ (0 : Int) from by decide) z9)
    refine g_aload_n hk dX12_slack_10 rfl ?_
    refine g_callV (n := 0) hk (j151_X12_copies l D zt r g I A L  hIv) (SP.same _) (fun _ h => h) (gi_V (List.mem_cons_of_mem _ (List.mem_append_left _ (List.mem_of_getElem? (i := 4) rfl))) (List.mem_cons_of_mem _ (List.mem_append_left _ (List.mem_of_getElem? (i := 5) rfl))) (List.mem_cons_of_mem _ (List.mem_append_left _ (List.mem_of_getElem? (i := 6) rfl))) (List.mem_cons_of_mem _ (List.mem_append_left _ (List.mem_of_getElem? (i := 3) rfl))) (gi_sub (fun w h => (List.mem_cons_of_mem _ (List.mem_append_right _ (List.mem_append_right _ (List.mem_append_left _ h))))) zg_j151_X12_copies)) rfl rfl rfl (by decide +kernel) ⟨Nat.le_of_ble_eq_true rfl, Nat.le_of_ble_eq_true rfl⟩ 0 rfl rfl rfl rfl (Nat.le_of_ble_eq_true rfl) ⟨Nat.le_of_ble_eq_true rfl, Nat.le_of_ble_eq_true rfl⟩ dX12_slack_11 (fun v ty' w' hp hk' => ?_)
    obtain ⟨I25310, A25310, L25310, hI25310, hA25310, hV25310, r25311, r25312, rfl, rfl⟩ := hp
    have f25313 := IvM_s17_0 hIv
    have f25314 := IvM_s17_164 hIv
    show GW κ 5 0 0 (wM r g I25310 A25310 L25310) 14 [(0, .ref (r 0)), (1, .int z1)] []
    refine g_iconst (v := 0) hk dX12_slack_14 (by decide) ?_
    refine g_istore_n (lv' := [(2, .int 0), (0, .ref (r 0)), (1, .int z1)]) hk dX12_slack_15 (by decide) rfl ?_
    refine g_iconst (v := 0) hk dX12_slack_16 (by decide) ?_
    refine g_istore_n (lv' := [(3, .int 0), (2, .int 0), (0, .ref (r 0)), (1, .int z1)]) hk dX12_slack_17 (by decide) rfl ?_
    have lp25454 : ∀ (n25455 : Nat) (x25315 : Int32) (x25316 : Int32) (I25319 : Nat → Int32) (A25319 : Nat → Nat → Int32) (L25319 : Nat → Nat → Int64), (Md [18, 19, 20] I25310 I25319) → (Md [19, 20, 21] A25310 A25319) → (IvM I25319 A25319) → (0 ≤ x25315.toInt) → (x25315.toInt ≤ 160) → (161 - x25315.toInt < (n25455 : Int)) → (0 < n25455) → GW κ 5 0 0 (wM r g I25319 A25319 L25319) 18 [(3, .int x25315), (2, .int x25316), (0, .ref (r 0)), (1, .int z1)] [] := by
      intro n25455
      induction n25455 with
      | zero =>
        intro x25315 x25316 I25319 A25319 L25319 hI25319 hA25319 hV25319 h25452 h25453 m25456 m25456z
        exact absurd m25456z (Nat.lt_irrefl 0)
      | succ n25455 ih25457 =>
        intro x25315 x25316 I25319 A25319 L25319 hI25319 hA25319 hV25319 h25452 h25453 m25456 m25456z
        refine g_iload_n hk dX12_slack_18 rfl ?_
        refine g_sipush (v := 160) hk dX12_slack_19 (by decide) ?_
        refine g_icmp_ge (tgt := 75) (a := x25315.toInt) (b := 160) hk dX12_slack_22 (by decide) rfl rfl (fun c25458 => ?_) (fun c25458 => ?_)
        · skip
          refine g_iload_n hk dX12_slack_75 rfl ?_
          have b25459l := Int32.le_toInt x25316
          have b25459h := Int32.toInt_lt x25316
          exact g_iret hk hR rfl ⟨I25319, A25319, L25319, (show Md [18, 19, 20] I I25319 from (Md.tr (Md.tr Md.rf hI25310 rfl) hI25319 rfl)), (show Md [18, 19, 20, 21] A A25319 from (Md.tr (Md.tr Md.rf hA25310 rfl) hA25319 rfl)), hV25319, x25316, rfl, rfl⟩ dX12_slack_76
        · skip
          refine g_aload_n hk dX12_slack_25 rfl ?_
          refine g_iload_n hk dX12_slack_26 rfl ?_
          refine g_iload_n hk dX12_slack_27 rfl ?_
          refine g_callV (n := 2) hk (j168_X12_isOf l D zt r g I25319 A25319 L25319 z1 x25315 hV25319) (SP.same _) (fun _ h => h) (gi_V (List.mem_cons_of_mem _ (List.mem_append_left _ (List.mem_of_getElem? (i := 7) rfl))) (List.mem_cons_of_mem _ (List.mem_append_left _ (List.mem_of_getElem? (i := 8) rfl))) (List.mem_cons_of_mem _ (List.mem_append_left _ (List.mem_of_getElem? (i := 9) rfl))) (List.mem_cons_of_mem _ (List.mem_append_left _ (List.mem_of_getElem? (i := 3) rfl))) (gi_sub (fun w h => (List.mem_cons_of_mem _ (List.mem_append_right _ (List.mem_append_right _ (List.mem_append_right _ (List.mem_append_left _ h)))))) zg_j168_X12_isOf)) rfl rfl rfl (by decide +kernel) ⟨Nat.le_of_ble_eq_true rfl, Nat.le_of_ble_eq_true rfl⟩ 0 rfl rfl rfl rfl (Nat.le_of_ble_eq_true rfl) ⟨Nat.le_of_ble_eq_true rfl, Nat.le_of_ble_eq_true rfl⟩ dX12_slack_28 (fun v ty' w' hp hk' => ?_)
          rcases hp with ⟨rfl, rfl⟩ | ⟨c25461, c25462, c25463, c25464, c25465, c25466, c25467, c25468, c25469, c25470, c25471, c25472, rfl, rfl⟩
          · skip
            show GW κ 5 0 0 (wM r g I25319 A25319 L25319) 31 [(3, .int x25315), (2, .int x25316), (0, .ref (r 0)), (1, .int z1)] [.int 0]
            refine g_if_ne (tgt := 37) (a := 0) hk dX12_slack_31 (by decide) rfl (fun z9 => absurd z9 (show ¬ ((0 : Int) ≠ (0 : Int)) from by decide)) (fun _ => ?_)
            refine g_goto (tgt := 69) hk dX12_slack_34 (by decide) ?_
            obtain ⟨y25474, ey25474⟩ : ∃ y : Int32, y = x25315 + Int32.ofInt 1 := ⟨_, rfl⟩
            have hy25474 : y25474.toInt = x25315.toInt + 1 := i32_add ey25474 rfl (by decide) (by omega) (by omega)
            refine g_iinc (v := y25474) (lv' := [(3, .int y25474), (2, .int x25316), (0, .ref (r 0)), (1, .int z1)]) hk 0 dX12_slack_69 rfl ey25474.symm (by decide) rfl ?_
            refine g_goto (tgt := 18) hk dX12_slack_72 (by decide) ?_
            have b25475l := Int32.le_toInt x25316
            have b25475h := Int32.toInt_lt x25316
            exact g_lv (List.forall_mem_cons.mpr ⟨List.mem_of_getElem? (i := 0) rfl, (List.forall_mem_cons.mpr ⟨List.mem_of_getElem? (i := 1) rfl, (List.forall_mem_cons.mpr ⟨List.mem_of_getElem? (i := 2) rfl, (List.forall_mem_cons.mpr ⟨List.mem_of_getElem? (i := 3) rfl, (fun _ h => absurd h List.not_mem_nil)⟩)⟩)⟩)⟩) (ih25457 y25474 x25316 I25319 A25319 L25319 (show Md [18, 19, 20] I25310 I25319 from Md.tr hI25319 (show Md [18, 19, 20] I25319 I25319 from Md.rf) rfl) (show Md [19, 20, 21] A25310 A25319 from Md.tr hA25319 (show Md [19, 20, 21] A25319 A25319 from Md.rf) rfl) hV25319 (by omega) (by omega) (by omega) (by omega))
          · skip
            rw [show (A25319 11 (5 * (I25319 15) + z1).toNatClampNeg) = (A 11 (5 * (I 15) + z1).toNatClampNeg) from (by rw [show I25319 15 = (I 15) from ((hI25319 15 rfl).trans (hI25310 15 rfl))]; exact ((congrFun (hA25319 11 rfl) _).trans (congrFun (hA25310 11 rfl) _)))] at c25471
            rw [show (A25319 11 (5 * (I25319 15) + z1).toNatClampNeg) = (A 11 (5 * (I 15) + z1).toNatClampNeg) from (by rw [show I25319 15 = (I 15) from ((hI25319 15 rfl).trans (hI25310 15 rfl))]; exact ((congrFun (hA25319 11 rfl) _).trans (congrFun (hA25310 11 rfl) _)))] at c25472
            show GW κ 5 0 0 (wM r g I25319 A25319 L25319) 31 [(3, .int x25315), (2, .int x25316), (0, .ref (r 0)), (1, .int z1)] [.int 1]
            refine g_if_ne (tgt := 37) (a := 1) hk dX12_slack_31 (by decide) rfl (fun _ => ?_) (fun z9 => absurd (show (1 : Int) ≠ (0 : Int) from by decide) z9)
            refine g_aload_n hk dX12_slack_37 rfl ?_
            refine g_iload_n hk dX12_slack_38 rfl ?_
            refine g_iload_n hk dX12_slack_39 rfl ?_
            refine g_callV (n := 2) hk (j169_X12_distanceOf l D zt r g I25319 A25319 L25319 z1 x25315 hV25319 (by omega) (by omega) (by omega) (by omega) (by first | (rw [show (A25319 11 (5 * (I25319 15) + z1).toNatClampNeg) = (A 11 (5 * (I 15) + z1).toNatClampNeg) from (by rw [show I25319 15 = (I 15) from ((hI25319 15 rfl).trans (hI25310 15 rfl))]; exact ((congrFun (hA25319 11 rfl) _).trans (congrFun (hA25310 11 rfl) _)))] <;> omega) | omega) (by first | (rw [show (A25319 11 (5 * (I25319 15) + z1).toNatClampNeg) = (A 11 (5 * (I 15) + z1).toNatClampNeg) from (by rw [show I25319 15 = (I 15) from ((hI25319 15 rfl).trans (hI25310 15 rfl))]; exact ((congrFun (hA25319 11 rfl) _).trans (congrFun (hA25310 11 rfl) _)))] <;> omega) | omega)) (SP.same _) (fun _ h => h) (gi_V (List.mem_cons_of_mem _ (List.mem_append_left _ (List.mem_of_getElem? (i := 10) rfl))) (List.mem_cons_of_mem _ (List.mem_append_left _ (List.mem_of_getElem? (i := 11) rfl))) (List.mem_cons_of_mem _ (List.mem_append_left _ (List.mem_of_getElem? (i := 12) rfl))) (List.mem_cons_of_mem _ (List.mem_append_left _ (List.mem_of_getElem? (i := 3) rfl))) (gi_sub (fun w h => (List.mem_cons_of_mem _ (List.mem_append_right _ (List.mem_append_right _ (List.mem_append_right _ (List.mem_append_right _ (List.mem_append_left _ h))))))) zg_j169_X12_distanceOf)) rfl rfl rfl (by decide +kernel) ⟨Nat.le_of_ble_eq_true rfl, Nat.le_of_ble_eq_true rfl⟩ 0 rfl rfl rfl rfl (Nat.le_of_ble_eq_true rfl) ⟨Nat.le_of_ble_eq_true rfl, Nat.le_of_ble_eq_true rfl⟩ dX12_slack_40 (fun v ty' w' hp hk' => ?_)
            obtain ⟨I25477, A25477, L25477, hI25477, hA25477, hV25477, y25476, r25478, rfl, rfl⟩ := hp
            have f25479 := IvM_f18 hV25477
            show GW κ 5 0 0 (wM r g I25477 A25477 L25477) 43 [(3, .int x25315), (2, .int x25316), (0, .ref (r 0)), (1, .int z1)] [.int y25476]
            refine g_istore (lv' := [(4, .int y25476), (3, .int x25315), (2, .int x25316), (0, .ref (r 0)), (1, .int z1)]) hk dX12_slack_43 (by decide) rfl ?_
            refine g_iload_n hk dX12_slack_45 rfl ?_
            refine g_iload hk dX12_slack_46 rfl ?_
            refine g_aload_n hk dX12_slack_48 rfl ?_
            refine g_callV (n := 0) hk (j182_X12_endsOf l D zt r g I25477 A25477 L25477  hV25477 (by omega)) (SP.same _) (fun _ h => h) (gi_V (List.mem_cons_of_mem _ (List.mem_append_left _ (List.mem_of_getElem? (i := 13) rfl))) (List.mem_cons_of_mem _ (List.mem_append_left _ (List.mem_of_getElem? (i := 14) rfl))) (List.mem_cons_of_mem _ (List.mem_append_left _ (List.mem_of_getElem? (i := 15) rfl))) (List.mem_cons_of_mem _ (List.mem_append_left _ (List.mem_of_getElem? (i := 3) rfl))) (gi_sub (fun w h => (List.mem_cons_of_mem _ (List.mem_append_right _ (List.mem_append_right _ (List.mem_append_right _ (List.mem_append_right _ (List.mem_append_right _ (List.mem_append_left _ h)))))))) zg_j182_X12_endsOf)) rfl rfl rfl (by decide +kernel) ⟨Nat.le_of_ble_eq_true rfl, Nat.le_of_ble_eq_true rfl⟩ 0 rfl rfl rfl rfl (Nat.le_of_ble_eq_true rfl) ⟨Nat.le_of_ble_eq_true rfl, Nat.le_of_ble_eq_true rfl⟩ dX12_slack_49 (fun v ty' w' hp hk' => ?_)
            obtain ⟨y25480, rfl, rfl⟩ := hp
            show GW κ 5 0 0 (wM r g I25477 A25477 L25477) 52 [(4, .int y25476), (3, .int x25315), (2, .int x25316), (0, .ref (r 0)), (1, .int z1)] [.int y25480, .int y25476, .int x25316]
            refine g_aload_n hk dX12_slack_52 rfl ?_
            refine g_callV (n := 0) hk (j181_X12_overOf l D zt r g I25477 A25477 L25477  hV25477) (SP.same _) (fun _ h => h) (gi_V (List.mem_cons_of_mem _ (List.mem_append_left _ (List.mem_of_getElem? (i := 16) rfl))) (List.mem_cons_of_mem _ (List.mem_append_left _ (List.mem_of_getElem? (i := 17) rfl))) (List.mem_cons_of_mem _ (List.mem_append_left _ (List.mem_of_getElem? (i := 18) rfl))) (List.mem_cons_of_mem _ (List.mem_append_left _ (List.mem_of_getElem? (i := 3) rfl))) (gi_sub (fun w h => (List.mem_cons_of_mem _ (List.mem_append_right _ (List.mem_append_right _ (List.mem_append_right _ (List.mem_append_right _ (List.mem_append_right _ (List.mem_append_right _ (List.mem_append_left _ h))))))))) zg_j181_X12_overOf)) rfl rfl rfl (by decide +kernel) ⟨Nat.le_of_ble_eq_true rfl, Nat.le_of_ble_eq_true rfl⟩ 0 rfl rfl rfl rfl (Nat.le_of_ble_eq_true rfl) ⟨Nat.le_of_ble_eq_true rfl, Nat.le_of_ble_eq_true rfl⟩ dX12_slack_53 (fun v ty' w' hp hk' => ?_)
            obtain ⟨y25481, rfl, rfl⟩ := hp
            show GW κ 5 0 0 (wM r g I25477 A25477 L25477) 56 [(4, .int y25476), (3, .int x25315), (2, .int x25316), (0, .ref (r 0)), (1, .int z1)] [.int y25481, .int y25480, .int y25476, .int x25316]
            refine g_aload_n hk dX12_slack_56 rfl ?_
            refine g_callV (n := 0) hk (j180_X12_backOf l D zt r g I25477 A25477 L25477  hV25477) (SP.same _) (fun _ h => h) (gi_V (List.mem_cons_of_mem _ (List.mem_append_left _ (List.mem_of_getElem? (i := 19) rfl))) (List.mem_cons_of_mem _ (List.mem_append_left _ (List.mem_of_getElem? (i := 20) rfl))) (List.mem_cons_of_mem _ (List.mem_append_left _ (List.mem_of_getElem? (i := 21) rfl))) (List.mem_cons_of_mem _ (List.mem_append_left _ (List.mem_of_getElem? (i := 3) rfl))) (gi_sub (fun w h => (List.mem_cons_of_mem _ (List.mem_append_right _ (List.mem_append_right _ (List.mem_append_right _ (List.mem_append_right _ (List.mem_append_right _ (List.mem_append_right _ (List.mem_append_right _ (List.mem_append_left _ h)))))))))) zg_j180_X12_backOf)) rfl rfl rfl (by decide +kernel) ⟨Nat.le_of_ble_eq_true rfl, Nat.le_of_ble_eq_true rfl⟩ 0 rfl rfl rfl rfl (Nat.le_of_ble_eq_true rfl) ⟨Nat.le_of_ble_eq_true rfl, Nat.le_of_ble_eq_true rfl⟩ dX12_slack_57 (fun v ty' w' hp hk' => ?_)
            obtain ⟨I25483, A25483, L25483, hI25483, hA25483, hV25483, y25482, rfl, rfl⟩ := hp
            show GW κ 5 0 0 (wM r g I25483 A25483 L25483) 60 [(4, .int y25476), (3, .int x25315), (2, .int x25316), (0, .ref (r 0)), (1, .int z1)] [.int y25482, .int y25481, .int y25480, .int y25476, .int x25316]
            refine g_callS (n := 2) hk (j210_X12_greater l D zt r g I25483 A25483 L25483 y25481 y25482 hV25483) (SP.same _) (fun _ h => h) (gi_S (List.mem_cons_of_mem _ (List.mem_append_left _ (List.mem_of_getElem? (i := 22) rfl))) (List.mem_cons_of_mem _ (List.mem_append_left _ (List.mem_of_getElem? (i := 23) rfl))) (List.mem_cons_of_mem _ (List.mem_append_left _ (List.mem_of_getElem? (i := 3) rfl))) (gi_sub (fun w h => (List.mem_cons_of_mem _ (List.mem_append_right _ (List.mem_append_right _ (List.mem_append_right _ (List.mem_append_right _ (List.mem_append_right _ (List.mem_append_right _ (List.mem_append_right _ (List.mem_append_right _ (List.mem_append_left _ h))))))))))) zg_j210_X12_greater)) rfl rfl rfl (by decide +kernel) ⟨Nat.le_of_ble_eq_true rfl, Nat.le_of_ble_eq_true rfl⟩ rfl rfl (Nat.le_of_ble_eq_true rfl) ⟨Nat.le_of_ble_eq_true rfl, Nat.le_of_ble_eq_true rfl⟩ dX12_slack_60 (fun v ty' w' hp hk' => ?_)
            obtain ⟨y25484, rfl, rfl⟩ := hp
            show GW κ 5 0 0 (wM r g I25483 A25483 L25483) 63 [(4, .int y25476), (3, .int x25315), (2, .int x25316), (0, .ref (r 0)), (1, .int z1)] [.int y25484, .int y25480, .int y25476, .int x25316]
            refine g_callS (n := 2) hk (j210_X12_greater l D zt r g I25483 A25483 L25483 y25480 y25484 hV25483) (SP.same _) (fun _ h => h) (gi_S (List.mem_cons_of_mem _ (List.mem_append_left _ (List.mem_of_getElem? (i := 22) rfl))) (List.mem_cons_of_mem _ (List.mem_append_left _ (List.mem_of_getElem? (i := 23) rfl))) (List.mem_cons_of_mem _ (List.mem_append_left _ (List.mem_of_getElem? (i := 3) rfl))) (gi_sub (fun w h => (List.mem_cons_of_mem _ (List.mem_append_right _ (List.mem_append_right _ (List.mem_append_right _ (List.mem_append_right _ (List.mem_append_right _ (List.mem_append_right _ (List.mem_append_right _ (List.mem_append_right _ (List.mem_append_left _ h))))))))))) zg_j210_X12_greater)) rfl rfl rfl (by decide +kernel) ⟨Nat.le_of_ble_eq_true rfl, Nat.le_of_ble_eq_true rfl⟩ rfl rfl (Nat.le_of_ble_eq_true rfl) ⟨Nat.le_of_ble_eq_true rfl, Nat.le_of_ble_eq_true rfl⟩ dX12_slack_63 (fun v ty' w' hp hk' => ?_)
            obtain ⟨y25485, rfl, rfl⟩ := hp
            show GW κ 5 0 0 (wM r g I25483 A25483 L25483) 66 [(4, .int y25476), (3, .int x25315), (2, .int x25316), (0, .ref (r 0)), (1, .int z1)] [.int y25485, .int y25476, .int x25316]
            have b25486l := Int32.le_toInt y25476
            have b25486h := Int32.toInt_lt y25476
            have b25487l := Int32.le_toInt y25485
            have b25487h := Int32.toInt_lt y25485
            refine g_isub hk dX12_slack_66 ?_
            refine g_topi (fun y25488 ey25488 => ?_)
            have hy25488 := i32_sub0 ey25488
            have b25489l := Int32.le_toInt x25316
            have b25489h := Int32.toInt_lt x25316
            have b25490l := Int32.le_toInt y25488
            have b25490h := Int32.toInt_lt y25488
            refine g_iadd hk dX12_slack_67 ?_
            refine g_topi (fun y25491 ey25491 => ?_)
            refine g_istore_n (lv' := [(2, .int y25491), (4, .int y25476), (3, .int x25315), (0, .ref (r 0)), (1, .int z1)]) hk dX12_slack_68 (by decide) rfl ?_
            obtain ⟨y25492, ey25492⟩ : ∃ y : Int32, y = x25315 + Int32.ofInt 1 := ⟨_, rfl⟩
            have hy25492 : y25492.toInt = x25315.toInt + 1 := i32_add ey25492 rfl (by decide) (by omega) (by omega)
            refine g_iinc (v := y25492) (lv' := [(3, .int y25492), (2, .int y25491), (4, .int y25476), (0, .ref (r 0)), (1, .int z1)]) hk 2 dX12_slack_69 rfl ey25492.symm (by decide) rfl ?_
            refine g_goto (tgt := 18) hk dX12_slack_72 (by decide) ?_
            have b25493l := Int32.le_toInt y25491
            have b25493h := Int32.toInt_lt y25491
            exact g_lv (List.forall_mem_cons.mpr ⟨List.mem_of_getElem? (i := 0) rfl, (List.forall_mem_cons.mpr ⟨List.mem_of_getElem? (i := 1) rfl, (List.forall_mem_cons.mpr ⟨List.mem_of_getElem? (i := 3) rfl, (List.forall_mem_cons.mpr ⟨List.mem_of_getElem? (i := 4) rfl, (fun _ h => absurd h List.not_mem_nil)⟩)⟩)⟩)⟩) (ih25457 y25492 y25491 I25483 A25483 L25483 (show Md [18, 19, 20] I25310 I25483 from Md.tr hI25319 (show Md [18, 19, 20] I25319 I25483 from (Md.tr (Md.tr Md.rf hI25477 rfl) hI25483 rfl)) rfl) (show Md [19, 20, 21] A25310 A25483 from Md.tr hA25319 (show Md [19, 20, 21] A25319 A25483 from (Md.tr (Md.tr Md.rf hA25477 rfl) hA25483 rfl)) rfl) hV25483 (by omega) (by omega) (by omega) (by omega))
    have k25494 : (0 : Int32).toInt = 0 := rfl
    obtain ⟨n25495, n25495a, n25495b⟩ : ∃ n : Nat, 161 - (0 : Int32).toInt < (n : Int) ∧ 0 < n := ⟨((161 - (0 : Int32).toInt : Int)).toNat + 1, by omega, by omega⟩
    exact lp25454 n25495 0 0 I25310 A25310 L25310 Md.rf Md.rf hV25310 (by omega) (by omega) n25495a n25495b
def wo_j211_X12_turns : List Cond := [Cond.methodLink RX12 251 yX12_isQuery, Cond.instanceMethod yX12_isQuery, Cond.selects RX12 yX12_isQuery yX12_isQuery, Cond.initialized RX12, Cond.methodLink RX12 357 yX12_fillsFar, Cond.instanceMethod yX12_fillsFar, Cond.selects RX12 yX12_fillsFar yX12_fillsFar, Cond.fieldLink RX12 91 "WarpDeskModel" "farBy" "[I"]
def wz_j211_X12_turns : List Cond := .code yX12_turns cX12_turns 6 (some .int) :: (wo_j211_X12_turns ++ (wsX120 ++ (wz_j147_X12_isQuery ++ (wz_j186_X12_fillsFar ++ ([] : List Cond)))))
theorem zg_j211_X12_turns : ∀ w ∈ wz_j211_X12_turns, goodWord w = true := zg_cons rfl (zg_app (by decide +kernel) (zg_app zgU_wsX120 (zg_app zg_j147_X12_isQuery (zg_app zg_j186_X12_fillsFar zg_nil))))
theorem zi_j211_X12_turns : ∀ w ∈ wz_j211_X12_turns, w ∈ lw_tbl := zi_cons zw_1906 (zi_app (zi_cons zw_1663 (zi_cons zw_1665 (zi_cons zw_67 (zi_cons zw_115 (zi_cons zw_1844 (zi_cons zw_1846 (zi_cons zw_93 (zi_cons zw_1426 zi_nil)))))))) (zi_app inX12 (zi_app zi_j147_X12_isQuery (zi_app zi_j186_X12_fillsFar zi_nil))))
set_option maxHeartbeats 4000000 in
set_option maxRecDepth 100000 in
theorem j211_X12_turns (l : Launch) (D : va_G) (zt : Nat × Nat × Nat × (Nat → Nat) × (Nat → Nat)) (r : Nat → Nat) (g : Nat → ClassId) (I : Nat → Int32) (A : Nat → Nat → Int32) (L : Nat → Nat → Int64) (z1 : Int32) (hIv : IvM I A) : GM l D zt (tyM g) yX12_turns wz_j211_X12_turns ({ frames := 7, cells := 0, slots := 0, locals := 156 } : Room) [.ref (r 0), .int z1] (wM r g I A L) (fun v _ w' => ∃ (I' : Nat → Int32) (A' : Nat → Nat → Int32) (L' : Nat → Nat → Int64), Md [18, 19, 20] I I' ∧ Md [18, 19, 20, 21, 24] A A' ∧ IvM I' A' ∧ ∃ y0 : Int32, v = some (.int y0) ∧ w' = wM r g I' A' L') 0 0 := by
  refine GM.of (cc := cX12_turns) (maxL := 6) (ret := (some .int)) (own := RX12) (lv := [(0, .ref (r 0)), (1, .int z1)]) (by decide) rfl rfl (Nat.le_of_ble_eq_true rfl) rfl (fun κ sz hk hR hN => ?_)
  have hin12 : ∀ w ∈ u_ws RX12 TX12 55, w ∈ wz_j211_X12_turns := fun w h => (List.mem_cons_of_mem _ (List.mem_append_right _ (List.mem_append_left _ h)))
  refine g_aload_n hk dX12_turns_0 rfl ?_
  refine g_iload_n hk dX12_turns_1 rfl ?_
  refine g_callV (n := 1) hk (j147_X12_isQuery l D zt r g I A L z1 hIv) (SP.same _) (fun _ h => h) (gi_V (List.mem_cons_of_mem _ (List.mem_append_left _ (List.mem_of_getElem? (i := 0) rfl))) (List.mem_cons_of_mem _ (List.mem_append_left _ (List.mem_of_getElem? (i := 1) rfl))) (List.mem_cons_of_mem _ (List.mem_append_left _ (List.mem_of_getElem? (i := 2) rfl))) (List.mem_cons_of_mem _ (List.mem_append_left _ (List.mem_of_getElem? (i := 3) rfl))) (gi_sub (fun w h => (List.mem_cons_of_mem _ (List.mem_append_right _ (List.mem_append_right _ (List.mem_append_left _ h))))) zg_j147_X12_isQuery)) rfl rfl rfl (by decide +kernel) ⟨Nat.le_of_ble_eq_true rfl, Nat.le_of_ble_eq_true rfl⟩ 0 rfl rfl rfl rfl (Nat.le_of_ble_eq_true rfl) ⟨Nat.le_of_ble_eq_true rfl, Nat.le_of_ble_eq_true rfl⟩ dX12_turns_2 (fun v ty' w' hp hk' => ?_)
  rcases hp with ⟨rfl, rfl⟩ | ⟨c25497, c25498, c25499, c25500, rfl, rfl⟩
  · skip
    show GW κ 6 0 0 (wM r g I A L) 5 [(0, .ref (r 0)), (1, .int z1)] [.int 0]
    refine g_if_ne (tgt := 10) (a := 0) hk dX12_turns_5 (by decide) rfl (fun z9 => absurd z9 (show ¬ ((0 : Int) ≠ (0 : Int)) from by decide)) (fun _ => ?_)
    refine g_iconst (v := (-1)) hk dX12_turns_8 (by decide) ?_
    exact g_iret hk hR rfl ⟨I, A, L, (show Md [18, 19, 20] I I from Md.rf), (show Md [18, 19, 20, 21, 24] A A from Md.rf), hIv, (-1), rfl, rfl⟩ dX12_turns_9
  · skip
    have f25502 : 0 ≤ (A 11 (5 * (I 15) + z1).toNatClampNeg).toInt ∧ (A 11 (5 * (I 15) + z1).toNatClampNeg).toInt ≤ 16 := IvM_a11 hIv _
    show GW κ 6 0 0 (wM r g I A L) 5 [(0, .ref (r 0)), (1, .int z1)] [.int 1]
    refine g_if_ne (tgt := 10) (a := 1) hk dX12_turns_5 (by decide) rfl (fun _ => ?_) (fun z9 => absurd (show (1 : Int) ≠ (0 : Int) from by decide) z9)
    refine g_aload_n hk dX12_turns_10 rfl ?_
    refine g_iload_n hk dX12_turns_11 rfl ?_
    refine g_callV (n := 1) hk (j186_X12_fillsFar l D zt r g I A L z1 hIv (by omega) (by omega)) (SP.same _) (fun _ h => h) (gi_V (List.mem_cons_of_mem _ (List.mem_append_left _ (List.mem_of_getElem? (i := 4) rfl))) (List.mem_cons_of_mem _ (List.mem_append_left _ (List.mem_of_getElem? (i := 5) rfl))) (List.mem_cons_of_mem _ (List.mem_append_left _ (List.mem_of_getElem? (i := 6) rfl))) (List.mem_cons_of_mem _ (List.mem_append_left _ (List.mem_of_getElem? (i := 3) rfl))) (gi_sub (fun w h => (List.mem_cons_of_mem _ (List.mem_append_right _ (List.mem_append_right _ (List.mem_append_right _ (List.mem_append_left _ h)))))) zg_j186_X12_fillsFar)) rfl rfl rfl (by decide +kernel) ⟨Nat.le_of_ble_eq_true rfl, Nat.le_of_ble_eq_true rfl⟩ 0 rfl rfl rfl rfl (Nat.le_of_ble_eq_true rfl) ⟨Nat.le_of_ble_eq_true rfl, Nat.le_of_ble_eq_true rfl⟩ dX12_turns_12 (fun v ty' w' hp hk' => ?_)
    obtain ⟨I25504, A25504, L25504, hI25504, hA25504, hV25504, r25505, rfl, rfl⟩ := hp
    show GW κ 6 0 0 (wM r g I25504 A25504 L25504) 15 [(0, .ref (r 0)), (1, .int z1)] []
    refine g_iconst (v := (-1)) hk dX12_turns_15 (by decide) ?_
    refine g_istore_n (lv' := [(2, .int (-1)), (0, .ref (r 0)), (1, .int z1)]) hk dX12_turns_16 (by decide) rfl ?_
    refine g_iconst (v := 0) hk dX12_turns_17 (by decide) ?_
    refine g_istore_n (lv' := [(3, .int 0), (2, .int (-1)), (0, .ref (r 0)), (1, .int z1)]) hk dX12_turns_18 (by decide) rfl ?_
    refine g_iconst (v := 0) hk dX12_turns_19 (by decide) ?_
    refine g_istore (lv' := [(4, .int 0), (3, .int 0), (2, .int (-1)), (0, .ref (r 0)), (1, .int z1)]) hk dX12_turns_20 (by decide) rfl ?_
    refine g_iconst (v := 0) hk dX12_turns_22 (by decide) ?_
    refine g_istore (lv' := [(5, .int 0), (4, .int 0), (3, .int 0), (2, .int (-1)), (0, .ref (r 0)), (1, .int z1)]) hk dX12_turns_23 (by decide) rfl ?_
    have lp25612 : ∀ (n25613 : Nat) (x25506 : Int32) (x25507 : Int32) (x25508 : Int32) (x25509 : Int32), (0 ≤ x25506.toInt) → (x25506.toInt ≤ 160) → (0 ≤ x25508.toInt) → (x25508.toInt ≤ 1) → ((-1) ≤ x25509.toInt) → (161 - x25506.toInt < (n25613 : Int)) → (0 < n25613) → GW κ 6 0 0 (wM r g I25504 A25504 L25504) 25 [(5, .int x25506), (4, .int x25507), (3, .int x25508), (2, .int x25509), (0, .ref (r 0)), (1, .int z1)] [] := by
      intro n25613
      induction n25613 with
      | zero =>
        intro x25506 x25507 x25508 x25509 h25607 h25608 h25609 h25610 h25611 m25614 m25614z
        exact absurd m25614z (Nat.lt_irrefl 0)
      | succ n25613 ih25615 =>
        intro x25506 x25507 x25508 x25509 h25607 h25608 h25609 h25610 h25611 m25614 m25614z
        refine g_iload hk dX12_turns_25 rfl ?_
        refine g_sipush (v := 160) hk dX12_turns_27 (by decide) ?_
        refine g_icmp_ge (tgt := 101) (a := x25506.toInt) (b := 160) hk dX12_turns_30 (by decide) rfl rfl (fun c25616 => ?_) (fun c25616 => ?_)
        · skip
          refine g_iload hk dX12_turns_101 rfl ?_
          have b25617l := Int32.le_toInt x25507
          have b25617h := Int32.toInt_lt x25507
          exact g_iret hk hR rfl ⟨I25504, A25504, L25504, (show Md [18, 19, 20] I I25504 from (Md.tr Md.rf hI25504 rfl)), (show Md [18, 19, 20, 21, 24] A A25504 from (Md.tr Md.rf hA25504 rfl)), hV25504, x25507, rfl, rfl⟩ dX12_turns_103
        · skip
          refine g_aload_n hk dX12_turns_33 rfl ?_
          refine gM_r0_48 hk hin12 (List.mem_cons_of_mem _ (List.mem_append_left _ (List.mem_of_getElem? (i := 7) rfl))) dX12_turns_34 ?_
          refine g_iload hk dX12_turns_37 rfl ?_
          refine lM_24 (v := (A25504 24 x25506.toNatClampNeg)) hk (vp_in_iff.mpr ⟨by omega, by omega⟩) rfl dX12_turns_39 ?_
          have b25618l := Int32.le_toInt (A25504 24 x25506.toNatClampNeg)
          have b25618h := Int32.toInt_lt (A25504 24 x25506.toNatClampNeg)
          refine g_if_ge (tgt := 46) (a := (A25504 24 x25506.toNatClampNeg).toInt) hk dX12_turns_40 (by decide) rfl (fun c25619 => ?_) (fun c25619 => ?_)
          · skip
            refine g_iload_n hk dX12_turns_46 rfl ?_
            have b25620l := Int32.le_toInt x25509
            have b25620h := Int32.toInt_lt x25509
            refine g_if_lt (tgt := 63) (a := x25509.toInt) hk dX12_turns_47 (by decide) rfl (fun c25621 => ?_) (fun c25621 => ?_)
            · skip
              refine g_iload_n hk dX12_turns_63 rfl ?_
              refine g_if_lt (tgt := 87) (a := x25509.toInt) hk dX12_turns_64 (by decide) rfl (fun _ => ?_) (fun z9 => absurd (show x25509.toInt < 0 from by omega) z9)
              refine g_aload_n hk dX12_turns_87 rfl ?_
              refine gM_r0_48 hk hin12 (List.mem_cons_of_mem _ (List.mem_append_left _ (List.mem_of_getElem? (i := 7) rfl))) dX12_turns_88 ?_
              refine g_iload hk dX12_turns_91 rfl ?_
              refine lM_24 (v := (A25504 24 x25506.toNatClampNeg)) hk (vp_in_iff.mpr ⟨by omega, by omega⟩) rfl dX12_turns_93 ?_
              refine g_istore_n (lv' := [(2, .int (A25504 24 x25506.toNatClampNeg)), (5, .int x25506), (4, .int x25507), (3, .int x25508), (0, .ref (r 0)), (1, .int z1)]) hk dX12_turns_94 (by decide) rfl ?_
              obtain ⟨y25622, ey25622⟩ : ∃ y : Int32, y = x25506 + Int32.ofInt 1 := ⟨_, rfl⟩
              have hy25622 : y25622.toInt = x25506.toInt + 1 := i32_add ey25622 rfl (by decide) (by omega) (by omega)
              refine g_iinc (v := y25622) (lv' := [(5, .int y25622), (2, .int (A25504 24 x25506.toNatClampNeg)), (4, .int x25507), (3, .int x25508), (0, .ref (r 0)), (1, .int z1)]) hk 1 dX12_turns_95 rfl ey25622.symm (by decide) rfl ?_
              refine g_goto (tgt := 25) hk dX12_turns_98 (by decide) ?_
              have b25623l := Int32.le_toInt x25507
              have b25623h := Int32.toInt_lt x25507
              exact g_lv (List.forall_mem_cons.mpr ⟨List.mem_of_getElem? (i := 0) rfl, (List.forall_mem_cons.mpr ⟨List.mem_of_getElem? (i := 2) rfl, (List.forall_mem_cons.mpr ⟨List.mem_of_getElem? (i := 3) rfl, (List.forall_mem_cons.mpr ⟨List.mem_of_getElem? (i := 1) rfl, (List.forall_mem_cons.mpr ⟨List.mem_of_getElem? (i := 4) rfl, (List.forall_mem_cons.mpr ⟨List.mem_of_getElem? (i := 5) rfl, (fun _ h => absurd h List.not_mem_nil)⟩)⟩)⟩)⟩)⟩)⟩) (ih25615 y25622 x25507 x25508 (A25504 24 x25506.toNatClampNeg) (by omega) (by omega) (by omega) (by omega) (by omega) (by omega) (by omega))
            · skip
              refine g_aload_n hk dX12_turns_50 rfl ?_
              refine gM_r0_48 hk hin12 (List.mem_cons_of_mem _ (List.mem_append_left _ (List.mem_of_getElem? (i := 7) rfl))) dX12_turns_51 ?_
              refine g_iload hk dX12_turns_54 rfl ?_
              refine lM_24 (v := (A25504 24 x25506.toNatClampNeg)) hk (vp_in_iff.mpr ⟨by omega, by omega⟩) rfl dX12_turns_56 ?_
              refine g_iload_n hk dX12_turns_57 rfl ?_
              refine g_icmp_ge (tgt := 63) (a := (A25504 24 x25506.toNatClampNeg).toInt) (b := x25509.toInt) hk dX12_turns_58 (by decide) rfl rfl (fun c25624 => ?_) (fun c25624 => ?_)
              · skip
                refine g_iload_n hk dX12_turns_63 rfl ?_
                refine g_if_lt (tgt := 87) (a := x25509.toInt) hk dX12_turns_64 (by decide) rfl (fun z9 => absurd z9 (show ¬ (x25509.toInt < 0) from by omega)) (fun _ => ?_)
                refine g_aload_n hk dX12_turns_67 rfl ?_
                refine gM_r0_48 hk hin12 (List.mem_cons_of_mem _ (List.mem_append_left _ (List.mem_of_getElem? (i := 7) rfl))) dX12_turns_68 ?_
                refine g_iload hk dX12_turns_71 rfl ?_
                refine lM_24 (v := (A25504 24 x25506.toNatClampNeg)) hk (vp_in_iff.mpr ⟨by omega, by omega⟩) rfl dX12_turns_73 ?_
                refine g_iload_n hk dX12_turns_74 rfl ?_
                refine g_icmp_le (tgt := 87) (a := (A25504 24 x25506.toNatClampNeg).toInt) (b := x25509.toInt) hk dX12_turns_75 (by decide) rfl rfl (fun c25625 => ?_) (fun c25625 => ?_)
                · skip
                  refine g_aload_n hk dX12_turns_87 rfl ?_
                  refine gM_r0_48 hk hin12 (List.mem_cons_of_mem _ (List.mem_append_left _ (List.mem_of_getElem? (i := 7) rfl))) dX12_turns_88 ?_
                  refine g_iload hk dX12_turns_91 rfl ?_
                  refine lM_24 (v := (A25504 24 x25506.toNatClampNeg)) hk (vp_in_iff.mpr ⟨by omega, by omega⟩) rfl dX12_turns_93 ?_
                  refine g_istore_n (lv' := [(2, .int (A25504 24 x25506.toNatClampNeg)), (5, .int x25506), (4, .int x25507), (3, .int x25508), (0, .ref (r 0)), (1, .int z1)]) hk dX12_turns_94 (by decide) rfl ?_
                  obtain ⟨y25626, ey25626⟩ : ∃ y : Int32, y = x25506 + Int32.ofInt 1 := ⟨_, rfl⟩
                  have hy25626 : y25626.toInt = x25506.toInt + 1 := i32_add ey25626 rfl (by decide) (by omega) (by omega)
                  refine g_iinc (v := y25626) (lv' := [(5, .int y25626), (2, .int (A25504 24 x25506.toNatClampNeg)), (4, .int x25507), (3, .int x25508), (0, .ref (r 0)), (1, .int z1)]) hk 1 dX12_turns_95 rfl ey25626.symm (by decide) rfl ?_
                  refine g_goto (tgt := 25) hk dX12_turns_98 (by decide) ?_
                  have b25627l := Int32.le_toInt x25507
                  have b25627h := Int32.toInt_lt x25507
                  exact g_lv (List.forall_mem_cons.mpr ⟨List.mem_of_getElem? (i := 0) rfl, (List.forall_mem_cons.mpr ⟨List.mem_of_getElem? (i := 2) rfl, (List.forall_mem_cons.mpr ⟨List.mem_of_getElem? (i := 3) rfl, (List.forall_mem_cons.mpr ⟨List.mem_of_getElem? (i := 1) rfl, (List.forall_mem_cons.mpr ⟨List.mem_of_getElem? (i := 4) rfl, (List.forall_mem_cons.mpr ⟨List.mem_of_getElem? (i := 5) rfl, (fun _ h => absurd h List.not_mem_nil)⟩)⟩)⟩)⟩)⟩)⟩) (ih25615 y25626 x25507 x25508 (A25504 24 x25506.toNatClampNeg) (by omega) (by omega) (by omega) (by omega) (by omega) (by omega) (by omega))
                · skip
                  refine g_iload_n hk dX12_turns_78 rfl ?_
                  refine g_if_eq (tgt := 85) (a := x25508.toInt) hk dX12_turns_79 (by decide) rfl (fun c25628 => ?_) (fun c25628 => ?_)
                  · skip
                    refine g_iconst (v := 0) hk dX12_turns_85 (by decide) ?_
                    refine g_istore_n (lv' := [(3, .int 0), (5, .int x25506), (4, .int x25507), (2, .int x25509), (0, .ref (r 0)), (1, .int z1)]) hk dX12_turns_86 (by decide) rfl ?_
                    refine g_aload_n hk dX12_turns_87 rfl ?_
                    refine gM_r0_48 hk hin12 (List.mem_cons_of_mem _ (List.mem_append_left _ (List.mem_of_getElem? (i := 7) rfl))) dX12_turns_88 ?_
                    refine g_iload hk dX12_turns_91 rfl ?_
                    refine lM_24 (v := (A25504 24 x25506.toNatClampNeg)) hk (vp_in_iff.mpr ⟨by omega, by omega⟩) rfl dX12_turns_93 ?_
                    refine g_istore_n (lv' := [(2, .int (A25504 24 x25506.toNatClampNeg)), (3, .int 0), (5, .int x25506), (4, .int x25507), (0, .ref (r 0)), (1, .int z1)]) hk dX12_turns_94 (by decide) rfl ?_
                    obtain ⟨y25629, ey25629⟩ : ∃ y : Int32, y = x25506 + Int32.ofInt 1 := ⟨_, rfl⟩
                    have hy25629 : y25629.toInt = x25506.toInt + 1 := i32_add ey25629 rfl (by decide) (by omega) (by omega)
                    refine g_iinc (v := y25629) (lv' := [(5, .int y25629), (2, .int (A25504 24 x25506.toNatClampNeg)), (3, .int 0), (4, .int x25507), (0, .ref (r 0)), (1, .int z1)]) hk 2 dX12_turns_95 rfl ey25629.symm (by decide) rfl ?_
                    refine g_goto (tgt := 25) hk dX12_turns_98 (by decide) ?_
                    have b25630l := Int32.le_toInt x25507
                    have b25630h := Int32.toInt_lt x25507
                    have k25631 : (0 : Int32).toInt = 0 := rfl
                    exact g_lv (List.forall_mem_cons.mpr ⟨List.mem_of_getElem? (i := 0) rfl, (List.forall_mem_cons.mpr ⟨List.mem_of_getElem? (i := 3) rfl, (List.forall_mem_cons.mpr ⟨List.mem_of_getElem? (i := 2) rfl, (List.forall_mem_cons.mpr ⟨List.mem_of_getElem? (i := 1) rfl, (List.forall_mem_cons.mpr ⟨List.mem_of_getElem? (i := 4) rfl, (List.forall_mem_cons.mpr ⟨List.mem_of_getElem? (i := 5) rfl, (fun _ h => absurd h List.not_mem_nil)⟩)⟩)⟩)⟩)⟩)⟩) (ih25615 y25629 x25507 0 (A25504 24 x25506.toNatClampNeg) (by omega) (by omega) (by omega) (by omega) (by omega) (by omega) (by omega))
                  · skip
                    have b25632l := Int32.le_toInt x25507
                    have b25632h := Int32.toInt_lt x25507
                    obtain ⟨y25633, ey25633⟩ : ∃ y : Int32, y = x25507 + Int32.ofInt 1 := ⟨_, rfl⟩
                    refine g_iinc (v := y25633) (lv' := [(4, .int y25633), (5, .int x25506), (3, .int x25508), (2, .int x25509), (0, .ref (r 0)), (1, .int z1)]) hk 1 dX12_turns_82 rfl ey25633.symm (by decide) rfl ?_
                    refine g_iconst (v := 0) hk dX12_turns_85 (by decide) ?_
                    refine g_istore_n (lv' := [(3, .int 0), (4, .int y25633), (5, .int x25506), (2, .int x25509), (0, .ref (r 0)), (1, .int z1)]) hk dX12_turns_86 (by decide) rfl ?_
                    refine g_aload_n hk dX12_turns_87 rfl ?_
                    refine gM_r0_48 hk hin12 (List.mem_cons_of_mem _ (List.mem_append_left _ (List.mem_of_getElem? (i := 7) rfl))) dX12_turns_88 ?_
                    refine g_iload hk dX12_turns_91 rfl ?_
                    refine lM_24 (v := (A25504 24 x25506.toNatClampNeg)) hk (vp_in_iff.mpr ⟨by omega, by omega⟩) rfl dX12_turns_93 ?_
                    refine g_istore_n (lv' := [(2, .int (A25504 24 x25506.toNatClampNeg)), (3, .int 0), (4, .int y25633), (5, .int x25506), (0, .ref (r 0)), (1, .int z1)]) hk dX12_turns_94 (by decide) rfl ?_
                    obtain ⟨y25634, ey25634⟩ : ∃ y : Int32, y = x25506 + Int32.ofInt 1 := ⟨_, rfl⟩
                    have hy25634 : y25634.toInt = x25506.toInt + 1 := i32_add ey25634 rfl (by decide) (by omega) (by omega)
                    refine g_iinc (v := y25634) (lv' := [(5, .int y25634), (2, .int (A25504 24 x25506.toNatClampNeg)), (3, .int 0), (4, .int y25633), (0, .ref (r 0)), (1, .int z1)]) hk 3 dX12_turns_95 rfl ey25634.symm (by decide) rfl ?_
                    refine g_goto (tgt := 25) hk dX12_turns_98 (by decide) ?_
                    have b25635l := Int32.le_toInt y25633
                    have b25635h := Int32.toInt_lt y25633
                    have k25636 : (0 : Int32).toInt = 0 := rfl
                    exact g_lv (List.forall_mem_cons.mpr ⟨List.mem_of_getElem? (i := 0) rfl, (List.forall_mem_cons.mpr ⟨List.mem_of_getElem? (i := 3) rfl, (List.forall_mem_cons.mpr ⟨List.mem_of_getElem? (i := 2) rfl, (List.forall_mem_cons.mpr ⟨List.mem_of_getElem? (i := 1) rfl, (List.forall_mem_cons.mpr ⟨List.mem_of_getElem? (i := 4) rfl, (List.forall_mem_cons.mpr ⟨List.mem_of_getElem? (i := 5) rfl, (fun _ h => absurd h List.not_mem_nil)⟩)⟩)⟩)⟩)⟩)⟩) (ih25615 y25634 y25633 0 (A25504 24 x25506.toNatClampNeg) (by omega) (by omega) (by omega) (by omega) (by omega) (by omega) (by omega))
              · skip
                refine g_iconst (v := 1) hk dX12_turns_61 (by decide) ?_
                refine g_istore_n (lv' := [(3, .int 1), (5, .int x25506), (4, .int x25507), (2, .int x25509), (0, .ref (r 0)), (1, .int z1)]) hk dX12_turns_62 (by decide) rfl ?_
                refine g_iload_n hk dX12_turns_63 rfl ?_
                refine g_if_lt (tgt := 87) (a := x25509.toInt) hk dX12_turns_64 (by decide) rfl (fun z9 => absurd z9 (show ¬ (x25509.toInt < 0) from by omega)) (fun _ => ?_)
                refine g_aload_n hk dX12_turns_67 rfl ?_
                refine gM_r0_48 hk hin12 (List.mem_cons_of_mem _ (List.mem_append_left _ (List.mem_of_getElem? (i := 7) rfl))) dX12_turns_68 ?_
                refine g_iload hk dX12_turns_71 rfl ?_
                refine lM_24 (v := (A25504 24 x25506.toNatClampNeg)) hk (vp_in_iff.mpr ⟨by omega, by omega⟩) rfl dX12_turns_73 ?_
                refine g_iload_n hk dX12_turns_74 rfl ?_
                refine g_icmp_le (tgt := 87) (a := (A25504 24 x25506.toNatClampNeg).toInt) (b := x25509.toInt) hk dX12_turns_75 (by decide) rfl rfl (fun c25637 => ?_) (fun c25637 => ?_)
                · skip
                  refine g_aload_n hk dX12_turns_87 rfl ?_
                  refine gM_r0_48 hk hin12 (List.mem_cons_of_mem _ (List.mem_append_left _ (List.mem_of_getElem? (i := 7) rfl))) dX12_turns_88 ?_
                  refine g_iload hk dX12_turns_91 rfl ?_
                  refine lM_24 (v := (A25504 24 x25506.toNatClampNeg)) hk (vp_in_iff.mpr ⟨by omega, by omega⟩) rfl dX12_turns_93 ?_
                  refine g_istore_n (lv' := [(2, .int (A25504 24 x25506.toNatClampNeg)), (3, .int 1), (5, .int x25506), (4, .int x25507), (0, .ref (r 0)), (1, .int z1)]) hk dX12_turns_94 (by decide) rfl ?_
                  obtain ⟨y25638, ey25638⟩ : ∃ y : Int32, y = x25506 + Int32.ofInt 1 := ⟨_, rfl⟩
                  have hy25638 : y25638.toInt = x25506.toInt + 1 := i32_add ey25638 rfl (by decide) (by omega) (by omega)
                  refine g_iinc (v := y25638) (lv' := [(5, .int y25638), (2, .int (A25504 24 x25506.toNatClampNeg)), (3, .int 1), (4, .int x25507), (0, .ref (r 0)), (1, .int z1)]) hk 2 dX12_turns_95 rfl ey25638.symm (by decide) rfl ?_
                  refine g_goto (tgt := 25) hk dX12_turns_98 (by decide) ?_
                  have b25639l := Int32.le_toInt x25507
                  have b25639h := Int32.toInt_lt x25507
                  have k25640 : (1 : Int32).toInt = 1 := rfl
                  exact g_lv (List.forall_mem_cons.mpr ⟨List.mem_of_getElem? (i := 0) rfl, (List.forall_mem_cons.mpr ⟨List.mem_of_getElem? (i := 3) rfl, (List.forall_mem_cons.mpr ⟨List.mem_of_getElem? (i := 2) rfl, (List.forall_mem_cons.mpr ⟨List.mem_of_getElem? (i := 1) rfl, (List.forall_mem_cons.mpr ⟨List.mem_of_getElem? (i := 4) rfl, (List.forall_mem_cons.mpr ⟨List.mem_of_getElem? (i := 5) rfl, (fun _ h => absurd h List.not_mem_nil)⟩)⟩)⟩)⟩)⟩)⟩) (ih25615 y25638 x25507 1 (A25504 24 x25506.toNatClampNeg) (by omega) (by omega) (by omega) (by omega) (by omega) (by omega) (by omega))
                · skip
                  refine g_iload_n hk dX12_turns_78 rfl ?_
                  refine g_if_eq (tgt := 85) (a := 1) hk dX12_turns_79 (by decide) rfl (fun z9 => absurd z9 (show ¬ ((1 : Int) = (0 : Int)) from by decide)) (fun _ => ?_)
                  have b25641l := Int32.le_toInt x25507
                  have b25641h := Int32.toInt_lt x25507
                  obtain ⟨y25642, ey25642⟩ : ∃ y : Int32, y = x25507 + Int32.ofInt 1 := ⟨_, rfl⟩
                  refine g_iinc (v := y25642) (lv' := [(4, .int y25642), (3, .int 1), (5, .int x25506), (2, .int x25509), (0, .ref (r 0)), (1, .int z1)]) hk 2 dX12_turns_82 rfl ey25642.symm (by decide) rfl ?_
                  refine g_iconst (v := 0) hk dX12_turns_85 (by decide) ?_
                  refine g_istore_n (lv' := [(3, .int 0), (4, .int y25642), (5, .int x25506), (2, .int x25509), (0, .ref (r 0)), (1, .int z1)]) hk dX12_turns_86 (by decide) rfl ?_
                  refine g_aload_n hk dX12_turns_87 rfl ?_
                  refine gM_r0_48 hk hin12 (List.mem_cons_of_mem _ (List.mem_append_left _ (List.mem_of_getElem? (i := 7) rfl))) dX12_turns_88 ?_
                  refine g_iload hk dX12_turns_91 rfl ?_
                  refine lM_24 (v := (A25504 24 x25506.toNatClampNeg)) hk (vp_in_iff.mpr ⟨by omega, by omega⟩) rfl dX12_turns_93 ?_
                  refine g_istore_n (lv' := [(2, .int (A25504 24 x25506.toNatClampNeg)), (3, .int 0), (4, .int y25642), (5, .int x25506), (0, .ref (r 0)), (1, .int z1)]) hk dX12_turns_94 (by decide) rfl ?_
                  obtain ⟨y25643, ey25643⟩ : ∃ y : Int32, y = x25506 + Int32.ofInt 1 := ⟨_, rfl⟩
                  have hy25643 : y25643.toInt = x25506.toInt + 1 := i32_add ey25643 rfl (by decide) (by omega) (by omega)
                  refine g_iinc (v := y25643) (lv' := [(5, .int y25643), (2, .int (A25504 24 x25506.toNatClampNeg)), (3, .int 0), (4, .int y25642), (0, .ref (r 0)), (1, .int z1)]) hk 3 dX12_turns_95 rfl ey25643.symm (by decide) rfl ?_
                  refine g_goto (tgt := 25) hk dX12_turns_98 (by decide) ?_
                  have b25644l := Int32.le_toInt y25642
                  have b25644h := Int32.toInt_lt y25642
                  have k25645 : (0 : Int32).toInt = 0 := rfl
                  exact g_lv (List.forall_mem_cons.mpr ⟨List.mem_of_getElem? (i := 0) rfl, (List.forall_mem_cons.mpr ⟨List.mem_of_getElem? (i := 3) rfl, (List.forall_mem_cons.mpr ⟨List.mem_of_getElem? (i := 2) rfl, (List.forall_mem_cons.mpr ⟨List.mem_of_getElem? (i := 1) rfl, (List.forall_mem_cons.mpr ⟨List.mem_of_getElem? (i := 4) rfl, (List.forall_mem_cons.mpr ⟨List.mem_of_getElem? (i := 5) rfl, (fun _ h => absurd h List.not_mem_nil)⟩)⟩)⟩)⟩)⟩)⟩) (ih25615 y25643 y25642 0 (A25504 24 x25506.toNatClampNeg) (by omega) (by omega) (by omega) (by omega) (by omega) (by omega) (by omega))
          · skip
            refine g_goto (tgt := 95) hk dX12_turns_43 (by decide) ?_
            obtain ⟨y25646, ey25646⟩ : ∃ y : Int32, y = x25506 + Int32.ofInt 1 := ⟨_, rfl⟩
            have hy25646 : y25646.toInt = x25506.toInt + 1 := i32_add ey25646 rfl (by decide) (by omega) (by omega)
            refine g_iinc (v := y25646) (lv' := [(5, .int y25646), (4, .int x25507), (3, .int x25508), (2, .int x25509), (0, .ref (r 0)), (1, .int z1)]) hk 0 dX12_turns_95 rfl ey25646.symm (by decide) rfl ?_
            refine g_goto (tgt := 25) hk dX12_turns_98 (by decide) ?_
            have b25647l := Int32.le_toInt x25507
            have b25647h := Int32.toInt_lt x25507
            have b25648l := Int32.le_toInt x25509
            have b25648h := Int32.toInt_lt x25509
            exact g_lv (List.forall_mem_cons.mpr ⟨List.mem_of_getElem? (i := 0) rfl, (List.forall_mem_cons.mpr ⟨List.mem_of_getElem? (i := 1) rfl, (List.forall_mem_cons.mpr ⟨List.mem_of_getElem? (i := 2) rfl, (List.forall_mem_cons.mpr ⟨List.mem_of_getElem? (i := 3) rfl, (List.forall_mem_cons.mpr ⟨List.mem_of_getElem? (i := 4) rfl, (List.forall_mem_cons.mpr ⟨List.mem_of_getElem? (i := 5) rfl, (fun _ h => absurd h List.not_mem_nil)⟩)⟩)⟩)⟩)⟩)⟩) (ih25615 y25646 x25507 x25508 x25509 (by omega) (by omega) (by omega) (by omega) (by omega) (by omega) (by omega))
    have k25649 : (0 : Int32).toInt = 0 := rfl
    have k25650 : ((-1) : Int32).toInt = (-1) := rfl
    obtain ⟨n25651, n25651a, n25651b⟩ : ∃ n : Nat, 161 - (0 : Int32).toInt < (n : Int) ∧ 0 < n := ⟨((161 - (0 : Int32).toInt : Int)).toNat + 1, by omega, by omega⟩
    exact lp25612 n25651 0 0 0 (-1) (by omega) (by omega) (by omega) (by omega) (by omega) n25651a n25651b
def wo_j212_X12_flat : List Cond := [Cond.methodLink RX12 244 yX12_in, Cond.static yX12_in, Cond.initialized RX12, Cond.fieldLink RX12 70 "WarpDeskModel" "now" "[I", Cond.methodLink RX12 257 yX12_isWindow, Cond.instanceMethod yX12_isWindow, Cond.selects RX12 yX12_isWindow yX12_isWindow, Cond.methodLink RX12 336 yX12_leastOf, Cond.instanceMethod yX12_leastOf, Cond.selects RX12 yX12_leastOf yX12_leastOf, Cond.methodLink RX12 339 yX12_mostOf, Cond.instanceMethod yX12_mostOf, Cond.selects RX12 yX12_mostOf yX12_mostOf]
def wz_j212_X12_flat : List Cond := .code yX12_flat cX12_flat 4 (some .int) :: (wo_j212_X12_flat ++ (wsX120 ++ (wz_j145_X12_in ++ (wz_j160_X12_isWindow ++ (wz_j162_X12_leastOf ++ (wz_j163_X12_mostOf ++ ([] : List Cond)))))))
theorem zg_j212_X12_flat : ∀ w ∈ wz_j212_X12_flat, goodWord w = true := zg_cons rfl (zg_app (by decide +kernel) (zg_app zgU_wsX120 (zg_app zg_j145_X12_in (zg_app zg_j160_X12_isWindow (zg_app zg_j162_X12_leastOf (zg_app zg_j163_X12_mostOf zg_nil))))))
theorem zi_j212_X12_flat : ∀ w ∈ wz_j212_X12_flat, w ∈ lw_tbl := zi_cons zw_1746 (zi_app (zi_cons zw_1656 (zi_cons zw_1657 (zi_cons zw_115 (zi_cons zw_1413 (zi_cons zw_1714 (zi_cons zw_1716 (zi_cons zw_72 (zi_cons zw_1723 (zi_cons zw_1725 (zi_cons zw_74 (zi_cons zw_1727 (zi_cons zw_1729 (zi_cons zw_75 zi_nil))))))))))))) (zi_app inX12 (zi_app zi_j145_X12_in (zi_app zi_j160_X12_isWindow (zi_app zi_j162_X12_leastOf (zi_app zi_j163_X12_mostOf zi_nil))))))
set_option maxHeartbeats 4000000 in
set_option maxRecDepth 100000 in
theorem j212_X12_flat (l : Launch) (D : va_G) (zt : Nat × Nat × Nat × (Nat → Nat) × (Nat → Nat)) (r : Nat → Nat) (g : Nat → ClassId) (I : Nat → Int32) (A : Nat → Nat → Int32) (L : Nat → Nat → Int64) (z1 : Int32) (hIv : IvM I A) : GM l D zt (tyM g) yX12_flat wz_j212_X12_flat ({ frames := 1, cells := 0, slots := 0, locals := 24 } : Room) [.ref (r 0), .int z1] (wM r g I A L) (fun v _ w' => ∃ y0 : Int32, v = some (.int y0) ∧ w' = wM r g I A L) 0 0 := by
  refine GM.of (cc := cX12_flat) (maxL := 4) (ret := (some .int)) (own := RX12) (lv := [(0, .ref (r 0)), (1, .int z1)]) (by decide) rfl rfl (Nat.le_of_ble_eq_true rfl) rfl (fun κ sz hk hR hN => ?_)
  have hin12 : ∀ w ∈ u_ws RX12 TX12 55, w ∈ wz_j212_X12_flat := fun w h => (List.mem_cons_of_mem _ (List.mem_append_right _ (List.mem_append_left _ h)))
  refine g_iload_n hk dX12_flat_0 rfl ?_
  refine g_iconst (v := 1) hk dX12_flat_1 (by decide) ?_
  refine g_sipush (v := 160) hk dX12_flat_2 (by decide) ?_
  have k25652 : (1 : Int32).toInt = 1 := rfl
  have k25653 : (160 : Int32).toInt = 160 := rfl
  refine g_callS (n := 3) hk (j145_X12_in l D zt r g I A L z1 1 160 hIv) (SP.same _) (fun _ h => h) (gi_S (List.mem_cons_of_mem _ (List.mem_append_left _ (List.mem_of_getElem? (i := 0) rfl))) (List.mem_cons_of_mem _ (List.mem_append_left _ (List.mem_of_getElem? (i := 1) rfl))) (List.mem_cons_of_mem _ (List.mem_append_left _ (List.mem_of_getElem? (i := 2) rfl))) (gi_sub (fun w h => (List.mem_cons_of_mem _ (List.mem_append_right _ (List.mem_append_right _ (List.mem_append_left _ h))))) zg_j145_X12_in)) rfl rfl rfl (by decide +kernel) ⟨Nat.le_of_ble_eq_true rfl, Nat.le_of_ble_eq_true rfl⟩ rfl rfl (Nat.le_of_ble_eq_true rfl) ⟨Nat.le_of_ble_eq_true rfl, Nat.le_of_ble_eq_true rfl⟩ dX12_flat_5 (fun v ty' w' hp hk' => ?_)
  rcases hp with ⟨c25654, rfl, rfl⟩ | ⟨c25656, c25657, rfl, rfl⟩
  · skip
    have b25659l := Int32.le_toInt z1
    have b25659h := Int32.toInt_lt z1
    show GW κ 4 0 0 (wM r g I A L) 8 [(0, .ref (r 0)), (1, .int z1)] [.int 0]
    refine g_if_ne (tgt := 13) (a := 0) hk dX12_flat_8 (by decide) rfl (fun z9 => absurd z9 (show ¬ ((0 : Int) ≠ (0 : Int)) from by decide)) (fun _ => ?_)
    refine g_iconst (v := (-1)) hk dX12_flat_11 (by decide) ?_
    exact g_iret hk hR rfl ⟨(-1), rfl, rfl⟩ dX12_flat_12
  · skip
    show GW κ 4 0 0 (wM r g I A L) 8 [(0, .ref (r 0)), (1, .int z1)] [.int 1]
    refine g_if_ne (tgt := 13) (a := 1) hk dX12_flat_8 (by decide) rfl (fun _ => ?_) (fun z9 => absurd (show (1 : Int) ≠ (0 : Int) from by decide) z9)
    refine g_iconst (v := 0) hk dX12_flat_13 (by decide) ?_
    refine g_istore_n (lv' := [(2, .int 0), (0, .ref (r 0)), (1, .int z1)]) hk dX12_flat_14 (by decide) rfl ?_
    refine g_iconst (v := 0) hk dX12_flat_15 (by decide) ?_
    refine g_istore_n (lv' := [(3, .int 0), (2, .int 0), (0, .ref (r 0)), (1, .int z1)]) hk dX12_flat_16 (by decide) rfl ?_
    have lp25769 : ∀ (n25770 : Nat) (x25660 : Int32) (x25661 : Int32), (0 ≤ x25660.toInt) → (x25660.toInt ≤ 160) → (161 - x25660.toInt < (n25770 : Int)) → (0 < n25770) → GW κ 4 0 0 (wM r g I A L) 17 [(3, .int x25660), (2, .int x25661), (0, .ref (r 0)), (1, .int z1)] [] := by
      intro n25770
      induction n25770 with
      | zero =>
        intro x25660 x25661 h25767 h25768 m25771 m25771z
        exact absurd m25771z (Nat.lt_irrefl 0)
      | succ n25770 ih25772 =>
        intro x25660 x25661 h25767 h25768 m25771 m25771z
        refine g_iload_n hk dX12_flat_17 rfl ?_
        refine g_aload_n hk dX12_flat_18 rfl ?_
        refine gM_r0_35 hk hin12 (List.mem_cons_of_mem _ (List.mem_append_left _ (List.mem_of_getElem? (i := 3) rfl))) dX12_flat_19 ?_
        refine g_iconst (v := 0) hk dX12_flat_22 (by decide) ?_
        refine lM_17 (v := (A 17 0)) hk (vp_in_iff.mpr ⟨by decide, by decide⟩) rfl dX12_flat_23 ?_
        have f25773 := IvM_s17_0 hIv
        refine g_icmp_ge (tgt := 60) (a := x25660.toInt) (b := (A 17 0).toInt) hk dX12_flat_24 (by decide) rfl rfl (fun c25774 => ?_) (fun c25774 => ?_)
        · skip
          refine g_iload_n hk dX12_flat_60 rfl ?_
          have b25775l := Int32.le_toInt x25661
          have b25775h := Int32.toInt_lt x25661
          exact g_iret hk hR rfl ⟨x25661, rfl, rfl⟩ dX12_flat_61
        · skip
          refine g_aload_n hk dX12_flat_27 rfl ?_
          refine g_iload_n hk dX12_flat_28 rfl ?_
          refine g_iload_n hk dX12_flat_29 rfl ?_
          refine g_callV (n := 2) hk (j160_X12_isWindow l D zt r g I A L x25660 z1 hIv) (SP.same _) (fun _ h => h) (gi_V (List.mem_cons_of_mem _ (List.mem_append_left _ (List.mem_of_getElem? (i := 4) rfl))) (List.mem_cons_of_mem _ (List.mem_append_left _ (List.mem_of_getElem? (i := 5) rfl))) (List.mem_cons_of_mem _ (List.mem_append_left _ (List.mem_of_getElem? (i := 6) rfl))) (List.mem_cons_of_mem _ (List.mem_append_left _ (List.mem_of_getElem? (i := 2) rfl))) (gi_sub (fun w h => (List.mem_cons_of_mem _ (List.mem_append_right _ (List.mem_append_right _ (List.mem_append_right _ (List.mem_append_left _ h)))))) zg_j160_X12_isWindow)) rfl rfl rfl (by decide +kernel) ⟨Nat.le_of_ble_eq_true rfl, Nat.le_of_ble_eq_true rfl⟩ 0 rfl rfl rfl rfl (Nat.le_of_ble_eq_true rfl) ⟨Nat.le_of_ble_eq_true rfl, Nat.le_of_ble_eq_true rfl⟩ dX12_flat_30 (fun v ty' w' hp hk' => ?_)
          rcases hp with ⟨rfl, rfl⟩ | ⟨c25777, c25778, c25779, c25780, c25781, c25782, c25783, rfl, rfl⟩
          · skip
            show GW κ 4 0 0 (wM r g I A L) 33 [(3, .int x25660), (2, .int x25661), (0, .ref (r 0)), (1, .int z1)] [.int 0]
            refine g_if_eq (tgt := 54) (a := 0) hk dX12_flat_33 (by decide) rfl (fun _ => ?_) (fun z9 => absurd (show (0 : Int) = (0 : Int) from by decide) z9)
            obtain ⟨y25785, ey25785⟩ : ∃ y : Int32, y = x25660 + Int32.ofInt 1 := ⟨_, rfl⟩
            have hy25785 : y25785.toInt = x25660.toInt + 1 := i32_add ey25785 rfl (by decide) (by omega) (by omega)
            refine g_iinc (v := y25785) (lv' := [(3, .int y25785), (2, .int x25661), (0, .ref (r 0)), (1, .int z1)]) hk 0 dX12_flat_54 rfl ey25785.symm (by decide) rfl ?_
            refine g_goto (tgt := 17) hk dX12_flat_57 (by decide) ?_
            have b25786l := Int32.le_toInt x25661
            have b25786h := Int32.toInt_lt x25661
            exact g_lv (List.forall_mem_cons.mpr ⟨List.mem_of_getElem? (i := 0) rfl, (List.forall_mem_cons.mpr ⟨List.mem_of_getElem? (i := 1) rfl, (List.forall_mem_cons.mpr ⟨List.mem_of_getElem? (i := 2) rfl, (List.forall_mem_cons.mpr ⟨List.mem_of_getElem? (i := 3) rfl, (fun _ h => absurd h List.not_mem_nil)⟩)⟩)⟩)⟩) (ih25772 y25785 x25661 (by omega) (by omega) (by omega) (by omega))
          · skip
            show GW κ 4 0 0 (wM r g I A L) 33 [(3, .int x25660), (2, .int x25661), (0, .ref (r 0)), (1, .int z1)] [.int 1]
            refine g_if_eq (tgt := 54) (a := 1) hk dX12_flat_33 (by decide) rfl (fun z9 => absurd z9 (show ¬ ((1 : Int) = (0 : Int)) from by decide)) (fun _ => ?_)
            refine g_aload_n hk dX12_flat_36 rfl ?_
            refine g_iload_n hk dX12_flat_37 rfl ?_
            refine g_iload_n hk dX12_flat_38 rfl ?_
            refine g_callV (n := 2) hk (j162_X12_leastOf l D zt r g I A L x25660 z1 hIv (by omega) (by omega) (by omega) (by omega) (by omega)) (SP.same _) (fun _ h => h) (gi_V (List.mem_cons_of_mem _ (List.mem_append_left _ (List.mem_of_getElem? (i := 7) rfl))) (List.mem_cons_of_mem _ (List.mem_append_left _ (List.mem_of_getElem? (i := 8) rfl))) (List.mem_cons_of_mem _ (List.mem_append_left _ (List.mem_of_getElem? (i := 9) rfl))) (List.mem_cons_of_mem _ (List.mem_append_left _ (List.mem_of_getElem? (i := 2) rfl))) (gi_sub (fun w h => (List.mem_cons_of_mem _ (List.mem_append_right _ (List.mem_append_right _ (List.mem_append_right _ (List.mem_append_right _ (List.mem_append_left _ h))))))) zg_j162_X12_leastOf)) rfl rfl rfl (by decide +kernel) ⟨Nat.le_of_ble_eq_true rfl, Nat.le_of_ble_eq_true rfl⟩ 0 rfl rfl rfl rfl (Nat.le_of_ble_eq_true rfl) ⟨Nat.le_of_ble_eq_true rfl, Nat.le_of_ble_eq_true rfl⟩ dX12_flat_39 (fun v ty' w' hp hk' => ?_)
            obtain ⟨y25787, rfl, rfl⟩ := hp
            show GW κ 4 0 0 (wM r g I A L) 42 [(3, .int x25660), (2, .int x25661), (0, .ref (r 0)), (1, .int z1)] [.int y25787]
            refine g_aload_n hk dX12_flat_42 rfl ?_
            refine g_iload_n hk dX12_flat_43 rfl ?_
            refine g_iload_n hk dX12_flat_44 rfl ?_
            refine g_callV (n := 2) hk (j163_X12_mostOf l D zt r g I A L x25660 z1 hIv (by omega) (by omega) (by omega) (by omega) (by omega)) (SP.same _) (fun _ h => h) (gi_V (List.mem_cons_of_mem _ (List.mem_append_left _ (List.mem_of_getElem? (i := 10) rfl))) (List.mem_cons_of_mem _ (List.mem_append_left _ (List.mem_of_getElem? (i := 11) rfl))) (List.mem_cons_of_mem _ (List.mem_append_left _ (List.mem_of_getElem? (i := 12) rfl))) (List.mem_cons_of_mem _ (List.mem_append_left _ (List.mem_of_getElem? (i := 2) rfl))) (gi_sub (fun w h => (List.mem_cons_of_mem _ (List.mem_append_right _ (List.mem_append_right _ (List.mem_append_right _ (List.mem_append_right _ (List.mem_append_right _ (List.mem_append_left _ h)))))))) zg_j163_X12_mostOf)) rfl rfl rfl (by decide +kernel) ⟨Nat.le_of_ble_eq_true rfl, Nat.le_of_ble_eq_true rfl⟩ 0 rfl rfl rfl rfl (Nat.le_of_ble_eq_true rfl) ⟨Nat.le_of_ble_eq_true rfl, Nat.le_of_ble_eq_true rfl⟩ dX12_flat_45 (fun v ty' w' hp hk' => ?_)
            obtain ⟨y25788, rfl, rfl⟩ := hp
            show GW κ 4 0 0 (wM r g I A L) 48 [(3, .int x25660), (2, .int x25661), (0, .ref (r 0)), (1, .int z1)] [.int y25788, .int y25787]
            have b25789l := Int32.le_toInt y25787
            have b25789h := Int32.toInt_lt y25787
            have b25790l := Int32.le_toInt y25788
            have b25790h := Int32.toInt_lt y25788
            refine g_icmp_ne (tgt := 54) (a := y25787.toInt) (b := y25788.toInt) hk dX12_flat_48 (by decide) rfl rfl (fun c25791 => ?_) (fun c25791 => ?_)
            · skip
              obtain ⟨y25792, ey25792⟩ : ∃ y : Int32, y = x25660 + Int32.ofInt 1 := ⟨_, rfl⟩
              have hy25792 : y25792.toInt = x25660.toInt + 1 := i32_add ey25792 rfl (by decide) (by omega) (by omega)
              refine g_iinc (v := y25792) (lv' := [(3, .int y25792), (2, .int x25661), (0, .ref (r 0)), (1, .int z1)]) hk 0 dX12_flat_54 rfl ey25792.symm (by decide) rfl ?_
              refine g_goto (tgt := 17) hk dX12_flat_57 (by decide) ?_
              have b25793l := Int32.le_toInt x25661
              have b25793h := Int32.toInt_lt x25661
              exact g_lv (List.forall_mem_cons.mpr ⟨List.mem_of_getElem? (i := 0) rfl, (List.forall_mem_cons.mpr ⟨List.mem_of_getElem? (i := 1) rfl, (List.forall_mem_cons.mpr ⟨List.mem_of_getElem? (i := 2) rfl, (List.forall_mem_cons.mpr ⟨List.mem_of_getElem? (i := 3) rfl, (fun _ h => absurd h List.not_mem_nil)⟩)⟩)⟩)⟩) (ih25772 y25792 x25661 (by omega) (by omega) (by omega) (by omega))
            · skip
              have b25794l := Int32.le_toInt x25661
              have b25794h := Int32.toInt_lt x25661
              obtain ⟨y25795, ey25795⟩ : ∃ y : Int32, y = x25661 + Int32.ofInt 1 := ⟨_, rfl⟩
              refine g_iinc (v := y25795) (lv' := [(2, .int y25795), (3, .int x25660), (0, .ref (r 0)), (1, .int z1)]) hk 1 dX12_flat_51 rfl ey25795.symm (by decide) rfl ?_
              obtain ⟨y25796, ey25796⟩ : ∃ y : Int32, y = x25660 + Int32.ofInt 1 := ⟨_, rfl⟩
              have hy25796 : y25796.toInt = x25660.toInt + 1 := i32_add ey25796 rfl (by decide) (by omega) (by omega)
              refine g_iinc (v := y25796) (lv' := [(3, .int y25796), (2, .int y25795), (0, .ref (r 0)), (1, .int z1)]) hk 1 dX12_flat_54 rfl ey25796.symm (by decide) rfl ?_
              refine g_goto (tgt := 17) hk dX12_flat_57 (by decide) ?_
              have b25797l := Int32.le_toInt y25795
              have b25797h := Int32.toInt_lt y25795
              exact g_lv (List.forall_mem_cons.mpr ⟨List.mem_of_getElem? (i := 0) rfl, (List.forall_mem_cons.mpr ⟨List.mem_of_getElem? (i := 1) rfl, (List.forall_mem_cons.mpr ⟨List.mem_of_getElem? (i := 2) rfl, (List.forall_mem_cons.mpr ⟨List.mem_of_getElem? (i := 3) rfl, (fun _ h => absurd h List.not_mem_nil)⟩)⟩)⟩)⟩) (ih25772 y25796 y25795 (by omega) (by omega) (by omega) (by omega))
    have k25798 : (0 : Int32).toInt = 0 := rfl
    obtain ⟨n25799, n25799a, n25799b⟩ : ∃ n : Nat, 161 - (0 : Int32).toInt < (n : Int) ∧ 0 < n := ⟨((161 - (0 : Int32).toInt : Int)).toNat + 1, by omega, by omega⟩
    exact lp25769 n25799 0 0 (by omega) (by omega) n25799a n25799b
