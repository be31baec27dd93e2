noncomputable def bM12_tellSeries_5 (I : Nat → Int32) : ((Nat → Int32) → (Nat → Nat → Int32) → (Nat → Nat → Int64) → (Int32 × (Nat → Int32) × (Nat → Nat → Int32) × (Nat → Nat → Int64))) → (Nat → Int32) → (Nat → Nat → Int32) → (Nat → Nat → Int64) → (Int32 × (Nat → Int32) × (Nat → Nat → Int32) × (Nat → Nat → Int64)) := fun kk16294 I15258 A15258 L15258 => if fM12_isReading I15258 A15258 L15258 = 0 then if fM12_is I15258 A15258 L15258 26 = 0 then f_bdM (fM12_must I15258 A15258 L15258 4) fun _ I16308 A16308 L16308 => if (I16308 6).toInt ≠ 0 then (0, I16308, A16308, L16308) else (0, (upd I16308 11 (-2)), A16308, L16308) else if (I 16).toInt = 0 then if (A15258 8 0).toInt ≠ 160 then if (I15258 6).toInt ≤ 0 then if fM12_is I15258 A15258 L15258 26 = 0 then if (I 16).toInt = 0 then if (I 16).toInt = 0 then f_lt ((0 : Int32) + (A15258 8 0)) fun y16334 => f_bdM (fM12_readingTold I15258 A15258 L15258) fun y16335 I16336 A16336 L16336 => if (I16336 6).toInt ≤ 0 then if (I 16).toInt = 0 then f_lt ((A15258 8 0) + (1 : Int32)) fun y16346 => f_lt ((I15258 11) + (1 : Int32)) fun y16350 => kk16294 (upd I16336 11 y16350) (up3 (up3 A16336 9 (y16334.toNatClampNeg) y16335) 8 0 y16346) L16336 else dfM else (0, I16336, (up3 A16336 9 (y16334.toNatClampNeg) y16335), L16336) else dfM else dfM else f_bdM (fM12_goesOn I15258 A15258 L15258) fun _ I16355 A16355 L16355 => if (I 16).toInt = 0 then if (I 16).toInt = 0 then f_lt ((0 : Int32) + (A15258 8 0)) fun y16364 => if (I16355 6).toInt ≤ 0 then if (I 16).toInt = 0 then f_lt ((A15258 8 0) + (1 : Int32)) fun y16368 => f_lt ((I15258 11) + (1 : Int32)) fun y16372 => kk16294 (upd I16355 11 y16372) (up3 (up3 A16355 9 (y16364.toNatClampNeg) 100000) 8 0 y16368) L16355 else dfM else (0, I16355, (up3 A16355 9 (y16364.toNatClampNeg) 100000), L16355) else dfM else dfM else (0, I15258, A15258, L15258) else f_bdM (fM12_fail I15258 A15258 L15258 2) fun _ I16381 A16381 L16381 => if (I16381 6).toInt ≤ 0 then if fM12_is I16381 A16381 L16381 26 = 0 then if (I 16).toInt = 0 then if (I 16).toInt = 0 then f_lt ((0 : Int32) + (A15258 8 0)) fun y16393 => f_bdM (fM12_readingTold I16381 A16381 L16381) fun y16394 I16395 A16395 L16395 => if (I16395 6).toInt ≤ 0 then if (I 16).toInt = 0 then f_lt ((A15258 8 0) + (1 : Int32)) fun y16405 => f_lt ((I15258 11) + (1 : Int32)) fun y16409 => kk16294 (upd I16395 11 y16409) (up3 (up3 A16395 9 (y16393.toNatClampNeg) y16394) 8 0 y16405) L16395 else dfM else (0, I16395, (up3 A16395 9 (y16393.toNatClampNeg) y16394), L16395) else dfM else dfM else f_bdM (fM12_goesOn I16381 A16381 L16381) fun _ I16414 A16414 L16414 => if (I 16).toInt = 0 then if (I 16).toInt = 0 then f_lt ((0 : Int32) + (A15258 8 0)) fun y16423 => if (I16414 6).toInt ≤ 0 then if (I 16).toInt = 0 then f_lt ((A15258 8 0) + (1 : Int32)) fun y16427 => f_lt ((I15258 11) + (1 : Int32)) fun y16431 => kk16294 (upd I16414 11 y16431) (up3 (up3 A16414 9 (y16423.toNatClampNeg) 100000) 8 0 y16427) L16414 else dfM else (0, I16414, (up3 A16414 9 (y16423.toNatClampNeg) 100000), L16414) else dfM else dfM else (0, I16381, A16381, L16381) else if (I 16).toInt = 1 then if (A15258 8 1).toInt ≠ 160 then if (I15258 6).toInt ≤ 0 then if fM12_is I15258 A15258 L15258 26 = 0 then if (I 16).toInt = 1 then if (I 16).toInt = 1 then f_lt ((160 : Int32) + (A15258 8 1)) fun y16448 => f_bdM (fM12_readingTold I15258 A15258 L15258) fun y16449 I16450 A16450 L16450 => if (I16450 6).toInt ≤ 0 then if (I 16).toInt = 1 then f_lt ((A15258 8 1) + (1 : Int32)) fun y16460 => f_lt ((I15258 11) + (1 : Int32)) fun y16464 => kk16294 (upd I16450 11 y16464) (up3 (up3 A16450 9 (y16448.toNatClampNeg) y16449) 8 1 y16460) L16450 else dfM else (0, I16450, (up3 A16450 9 (y16448.toNatClampNeg) y16449), L16450) else dfM else dfM else f_bdM (fM12_goesOn I15258 A15258 L15258) fun _ I16469 A16469 L16469 => if (I 16).toInt = 1 then if (I 16).toInt = 1 then f_lt ((160 : Int32) + (A15258 8 1)) fun y16478 => if (I16469 6).toInt ≤ 0 then if (I 16).toInt = 1 then f_lt ((A15258 8 1) + (1 : Int32)) fun y16482 => f_lt ((I15258 11) + (1 : Int32)) fun y16486 => kk16294 (upd I16469 11 y16486) (up3 (up3 A16469 9 (y16478.toNatClampNeg) 100000) 8 1 y16482) L16469 else dfM else (0, I16469, (up3 A16469 9 (y16478.toNatClampNeg) 100000), L16469) else dfM else dfM else (0, I15258, A15258, L15258) else f_bdM (fM12_fail I15258 A15258 L15258 2) fun _ I16495 A16495 L16495 => if (I16495 6).toInt ≤ 0 then if fM12_is I16495 A16495 L16495 26 = 0 then if (I 16).toInt = 1 then if (I 16).toInt = 1 then f_lt ((160 : Int32) + (A15258 8 1)) fun y16507 => f_bdM (fM12_readingTold I16495 A16495 L16495) fun y16508 I16509 A16509 L16509 => if (I16509 6).toInt ≤ 0 then if (I 16).toInt = 1 then f_lt ((A15258 8 1) + (1 : Int32)) fun y16519 => f_lt ((I15258 11) + (1 : Int32)) fun y16523 => kk16294 (upd I16509 11 y16523) (up3 (up3 A16509 9 (y16507.toNatClampNeg) y16508) 8 1 y16519) L16509 else dfM else (0, I16509, (up3 A16509 9 (y16507.toNatClampNeg) y16508), L16509) else dfM else dfM else f_bdM (fM12_goesOn I16495 A16495 L16495) fun _ I16528 A16528 L16528 => if (I 16).toInt = 1 then if (I 16).toInt = 1 then f_lt ((160 : Int32) + (A15258 8 1)) fun y16537 => if (I16528 6).toInt ≤ 0 then if (I 16).toInt = 1 then f_lt ((A15258 8 1) + (1 : Int32)) fun y16541 => f_lt ((I15258 11) + (1 : Int32)) fun y16545 => kk16294 (upd I16528 11 y16545) (up3 (up3 A16528 9 (y16537.toNatClampNeg) 100000) 8 1 y16541) L16528 else dfM else (0, I16528, (up3 A16528 9 (y16537.toNatClampNeg) 100000), L16528) else dfM else dfM else (0, I16495, A16495, L16495) else dfM else if (I 16).toInt = 0 then if (A15258 8 0).toInt ≠ 160 then if (I15258 6).toInt ≤ 0 then if fM12_is I15258 A15258 L15258 26 = 0 then if (I 16).toInt = 0 then if (I 16).toInt = 0 then f_lt ((0 : Int32) + (A15258 8 0)) fun y16564 => f_bdM (fM12_readingTold I15258 A15258 L15258) fun y16565 I16566 A16566 L16566 => if (I16566 6).toInt ≤ 0 then if (I 16).toInt = 0 then f_lt ((A15258 8 0) + (1 : Int32)) fun y16576 => f_lt ((I15258 11) + (1 : Int32)) fun y16580 => kk16294 (upd I16566 11 y16580) (up3 (up3 A16566 9 (y16564.toNatClampNeg) y16565) 8 0 y16576) L16566 else dfM else (0, I16566, (up3 A16566 9 (y16564.toNatClampNeg) y16565), L16566) else dfM else dfM else f_bdM (fM12_goesOn I15258 A15258 L15258) fun _ I16585 A16585 L16585 => if (I 16).toInt = 0 then if (I 16).toInt = 0 then f_lt ((0 : Int32) + (A15258 8 0)) fun y16594 => if (I16585 6).toInt ≤ 0 then if (I 16).toInt = 0 then f_lt ((A15258 8 0) + (1 : Int32)) fun y16598 => f_lt ((I15258 11) + (1 : Int32)) fun y16602 => kk16294 (upd I16585 11 y16602) (up3 (up3 A16585 9 (y16594.toNatClampNeg) 100000) 8 0 y16598) L16585 else dfM else (0, I16585, (up3 A16585 9 (y16594.toNatClampNeg) 100000), L16585) else dfM else dfM else (0, I15258, A15258, L15258) else f_bdM (fM12_fail I15258 A15258 L15258 2) fun _ I16611 A16611 L16611 => if (I16611 6).toInt ≤ 0 then if fM12_is I16611 A16611 L16611 26 = 0 then if (I 16).toInt = 0 then if (I 16).toInt = 0 then f_lt ((0 : Int32) + (A15258 8 0)) fun y16624 => f_bdM (fM12_readingTold I16611 A16611 L16611) fun y16625 I16626 A16626 L16626 => if (I16626 6).toInt ≤ 0 then if (I 16).toInt = 0 then f_lt ((A15258 8 0) + (1 : Int32)) fun y16636 => f_lt ((I15258 11) + (1 : Int32)) fun y16640 => kk16294 (upd I16626 11 y16640) (up3 (up3 A16626 9 (y16624.toNatClampNeg) y16625) 8 0 y16636) L16626 else dfM else (0, I16626, (up3 A16626 9 (y16624.toNatClampNeg) y16625), L16626) else dfM else dfM else f_bdM (fM12_goesOn I16611 A16611 L16611) fun _ I16645 A16645 L16645 => if (I 16).toInt = 0 then if (I 16).toInt = 0 then f_lt ((0 : Int32) + (A15258 8 0)) fun y16654 => if (I16645 6).toInt ≤ 0 then if (I 16).toInt = 0 then f_lt ((A15258 8 0) + (1 : Int32)) fun y16658 => f_lt ((I15258 11) + (1 : Int32)) fun y16662 => kk16294 (upd I16645 11 y16662) (up3 (up3 A16645 9 (y16654.toNatClampNeg) 100000) 8 0 y16658) L16645 else dfM else (0, I16645, (up3 A16645 9 (y16654.toNatClampNeg) 100000), L16645) else dfM else dfM else (0, I16611, A16611, L16611) else if (I 16).toInt = 1 then if (A15258 8 1).toInt ≠ 160 then if (I15258 6).toInt ≤ 0 then if fM12_is I15258 A15258 L15258 26 = 0 then if (I 16).toInt = 1 then if (I 16).toInt = 1 then f_lt ((160 : Int32) + (A15258 8 1)) fun y16680 => f_bdM (fM12_readingTold I15258 A15258 L15258) fun y16681 I16682 A16682 L16682 => if (I16682 6).toInt ≤ 0 then if (I 16).toInt = 1 then f_lt ((A15258 8 1) + (1 : Int32)) fun y16692 => f_lt ((I15258 11) + (1 : Int32)) fun y16696 => kk16294 (upd I16682 11 y16696) (up3 (up3 A16682 9 (y16680.toNatClampNeg) y16681) 8 1 y16692) L16682 else dfM else (0, I16682, (up3 A16682 9 (y16680.toNatClampNeg) y16681), L16682) else dfM else dfM else f_bdM (fM12_goesOn I15258 A15258 L15258) fun _ I16701 A16701 L16701 => if (I 16).toInt = 1 then if (I 16).toInt = 1 then f_lt ((160 : Int32) + (A15258 8 1)) fun y16710 => if (I16701 6).toInt ≤ 0 then if (I 16).toInt = 1 then f_lt ((A15258 8 1) + (1 : Int32)) fun y16714 => f_lt ((I15258 11) + (1 : Int32)) fun y16718 => kk16294 (upd I16701 11 y16718) (up3 (up3 A16701 9 (y16710.toNatClampNeg) 100000) 8 1 y16714) L16701 else dfM else (0, I16701, (up3 A16701 9 (y16710.toNatClampNeg) 100000), L16701) else dfM else dfM else (0, I15258, A15258, L15258) else f_bdM (fM12_fail I15258 A15258 L15258 2) fun _ I16727 A16727 L16727 => if (I16727 6).toInt ≤ 0 then if fM12_is I16727 A16727 L16727 26 = 0 then if (I 16).toInt = 1 then if (I 16).toInt = 1 then f_lt ((160 : Int32) + (A15258 8 1)) fun y16740 => f_bdM (fM12_readingTold I16727 A16727 L16727) fun y16741 I16742 A16742 L16742 => if (I16742 6).toInt ≤ 0 then if (I 16).toInt = 1 then f_lt ((A15258 8 1) + (1 : Int32)) fun y16752 => f_lt ((I15258 11) + (1 : Int32)) fun y16756 => kk16294 (upd I16742 11 y16756) (up3 (up3 A16742 9 (y16740.toNatClampNeg) y16741) 8 1 y16752) L16742 else dfM else (0, I16742, (up3 A16742 9 (y16740.toNatClampNeg) y16741), L16742) else dfM else dfM else f_bdM (fM12_goesOn I16727 A16727 L16727) fun _ I16761 A16761 L16761 => if (I 16).toInt = 1 then if (I 16).toInt = 1 then f_lt ((160 : Int32) + (A15258 8 1)) fun y16770 => if (I16761 6).toInt ≤ 0 then if (I 16).toInt = 1 then f_lt ((A15258 8 1) + (1 : Int32)) fun y16774 => f_lt ((I15258 11) + (1 : Int32)) fun y16778 => kk16294 (upd I16761 11 y16778) (up3 (up3 A16761 9 (y16770.toNatClampNeg) 100000) 8 1 y16774) L16761 else dfM else (0, I16761, (up3 A16761 9 (y16770.toNatClampNeg) 100000), L16761) else dfM else dfM else (0, I16727, A16727, L16727) else dfM
noncomputable def fM12_tellSeries (I : Nat → Int32) (A : Nat → Nat → Int32) (L : Nat → Nat → Int64) : Int32 × (Nat → Int32) × (Nat → Nat → Int32) × (Nat → Nat → Int64) := itr_IAL dfM (bM12_tellSeries_5 I) FU (upd I 11 0) A L
def wo_j129_X12_tellSeries : List Cond := [Cond.fieldLink RX12 170 "WarpDeskModel" "here" "I", Cond.methodLink RX12 235 yX12_isReading, Cond.instanceMethod yX12_isReading, Cond.selects RX12 yX12_isReading yX12_isReading, Cond.initialized RX12, Cond.methodLink RX12 188 yX12_is, Cond.instanceMethod yX12_is, Cond.selects RX12 yX12_is yX12_is, Cond.methodLink RX12 216 yX12_must, Cond.instanceMethod yX12_must, Cond.selects RX12 yX12_must yX12_must, Cond.fieldLink RX12 161 "WarpDeskModel" "fault" "I", Cond.fieldLink RX12 43 "WarpDeskModel" "placesTold" "[I", Cond.fieldLink RX12 200 "WarpDeskModel" "side" "I", Cond.fieldLink RX12 46 "WarpDeskModel" "seriesTold" "[I", Cond.methodLink RX12 240 yX12_readingTold, Cond.instanceMethod yX12_readingTold, Cond.selects RX12 yX12_readingTold yX12_readingTold, Cond.methodLink RX12 191 yX12_goesOn, Cond.instanceMethod yX12_goesOn, Cond.selects RX12 yX12_goesOn yX12_goesOn, Cond.constant RX12 239 (100000), Cond.methodLink RX12 185 yX12_fail, Cond.instanceMethod yX12_fail, Cond.selects RX12 yX12_fail yX12_fail]
def wz_j129_X12_tellSeries : List Cond := .code yX12_tellSeries cX12_tellSeries 2 none :: (wo_j129_X12_tellSeries ++ (wsX120 ++ (wz_j130_X12_isReading ++ (wz_j125_X12_is ++ (wz_j131_X12_must ++ (wz_j132_X12_readingTold ++ (wz_j127_X12_goesOn ++ (wz_j128_X12_fail ++ ([] : List Cond)))))))))
theorem zg_j129_X12_tellSeries : ∀ w ∈ wz_j129_X12_tellSeries, goodWord w = true := zg_cons rfl (zg_app (by decide +kernel) (zg_app zgU_wsX120 (zg_app zg_j130_X12_isReading (zg_app zg_j125_X12_is (zg_app zg_j131_X12_must (zg_app zg_j132_X12_readingTold (zg_app zg_j127_X12_goesOn (zg_app zg_j128_X12_fail zg_nil))))))))
theorem zi_j129_X12_tellSeries : ∀ w ∈ wz_j129_X12_tellSeries, w ∈ lw_tbl := zi_cons zw_1602 (zi_app (zi_cons zw_1396 (zi_cons zw_1603 (zi_cons zw_1605 (zi_cons zw_57 (zi_cons zw_115 (zi_cons zw_1583 (zi_cons zw_1585 (zi_cons zw_52 (zi_cons zw_1620 (zi_cons zw_1622 (zi_cons zw_61 (zi_cons zw_1391 (zi_cons zw_1404 (zi_cons zw_1401 (zi_cons zw_1405 (zi_cons zw_1608 (zi_cons zw_1610 (zi_cons zw_58 (zi_cons zw_1591 (zi_cons zw_1593 (zi_cons zw_54 (zi_cons zw_1607 (zi_cons zw_1595 (zi_cons zw_1597 (zi_cons zw_55 zi_nil))))))))))))))))))))))))) (zi_app inX12 (zi_app zi_j130_X12_isReading (zi_app zi_j125_X12_is (zi_app zi_j131_X12_must (zi_app zi_j132_X12_readingTold (zi_app zi_j127_X12_goesOn (zi_app zi_j128_X12_fail zi_nil))))))))
set_option maxHeartbeats 4000000 in
set_option maxRecDepth 100000 in
theorem j129_X12_tellSeries (l : Launch) (D : va_G) (zt : Nat × Nat × Nat × (Nat → Nat) × (Nat → Nat)) (r : Nat → Nat) (g : Nat → ClassId) (I : Nat → Int32) (A : Nat → Nat → Int32) (L : Nat → Nat → Int64) (hIv : IvM I A) : GM l D zt (tyM g) yX12_tellSeries wz_j129_X12_tellSeries ({ frames := 4, cells := 0, slots := 0, locals := 86 } : Room) [.ref (r 0)] (wM r g I A L) (fun v _ w' => ∃ (I' : Nat → Int32) (A' : Nat → Nat → Int32) (L' : Nat → Nat → Int64), Md [4, 6, 7, 8, 9, 11, 12, 13] I I' ∧ Md [8, 9] A A' ∧ IvM I' A' ∧ ((I 4).toInt ≤ (I' 4).toInt) ∧ ((I 6).toInt ≤ (I' 6).toInt) ∧ ((I 8).toInt ≤ 9 * (I' 8).toInt) ∧ (L' = L) ∧ FE (fM12_tellSeries I A L) (0, I', A', L') ∧ v = none ∧ w' = wM r g I' A' L') 0 0 := by
  refine GM.of (cc := cX12_tellSeries) (maxL := 2) (ret := none) (own := RX12) (lv := [(0, .ref (r 0))]) (by decide) rfl rfl (Nat.le_of_ble_eq_true rfl) rfl (fun κ sz hk hR hN => ?_)
  have hin12 : ∀ w ∈ u_ws RX12 TX12 55, w ∈ wz_j129_X12_tellSeries := fun w h => (List.mem_cons_of_mem _ (List.mem_append_right _ (List.mem_append_left _ h)))
  have hF : FE (fM12_tellSeries I A L) (fM12_tellSeries I A L) := FE.rf
  refine g_aload_n hk dX12_tellSeries_0 rfl ?_
  refine g_iconst (v := 0) hk dX12_tellSeries_1 (by decide) ?_
  refine pM_i11 hk hin12 (List.mem_cons_of_mem _ (List.mem_append_left _ (List.mem_of_getElem? (i := 0) rfl))) dX12_tellSeries_2 ?_
  have f16285 := IvM_f4 hIv
  have f16286 := IvM_f6 hIv
  have f16287 := IvM_f8 hIv
  have lp16291 : ∀ (n16292 : Nat) (I15258 : Nat → Int32) (A15258 : Nat → Nat → Int32) (L15258 : Nat → Nat → Int64), (Md [4, 6, 7, 8, 9, 11, 12, 13] (upd I 11 0) I15258) → (Md [8, 9] A A15258) → (IvM I15258 A15258) → (L15258 = L) → ((I 4).toInt ≤ (I15258 4).toInt) → ((I 6).toInt ≤ (I15258 6).toInt) → ((I 8).toInt ≤ 9 * (I15258 8).toInt) → (401 - (I15258 4).toInt < (n16292 : Int)) → (0 < n16292) → (FE (fM12_tellSeries I A L) (itr_IAL dfM (bM12_tellSeries_5 I) n16292 I15258 A15258 L15258)) → GW κ 2 0 0 (wM r g I15258 A15258 L15258) 5 [(0, .ref (r 0))] [] := by
    intro n16292
    induction n16292 with
    | zero =>
      intro I15258 A15258 L15258 hI15258 hA15258 hV15258 hL15258 h16288 h16289 h16290 m16293 m16293z hF
      exact absurd m16293z (Nat.lt_irrefl 0)
    | succ n16292 ih16295 =>
      intro I15258 A15258 L15258 hI15258 hA15258 hV15258 hL15258 h16288 h16289 h16290 m16293 m16293z hF
      have f16296 := IvM_f4 hV15258
      have f16297 := IvM_f6 hV15258
      have f16298 := IvM_f8 hV15258
      replace hF := FE.itr_IAL hF
      refine g_aload_n hk dX12_tellSeries_5 rfl ?_
      refine g_callV (n := 0) hk (j130_X12_isReading l D zt r g I15258 A15258 L15258  hV15258) (SP.same _) (fun _ h => h) (gi_V (List.mem_cons_of_mem _ (List.mem_append_left _ (List.mem_of_getElem? (i := 1) rfl))) (List.mem_cons_of_mem _ (List.mem_append_left _ (List.mem_of_getElem? (i := 2) rfl))) (List.mem_cons_of_mem _ (List.mem_append_left _ (List.mem_of_getElem? (i := 3) rfl))) (List.mem_cons_of_mem _ (List.mem_append_left _ (List.mem_of_getElem? (i := 4) rfl))) (gi_sub (fun w h => (List.mem_cons_of_mem _ (List.mem_append_right _ (List.mem_append_right _ (List.mem_append_left _ h))))) zg_j130_X12_isReading)) rfl rfl rfl (by decide +kernel) ⟨Nat.le_of_ble_eq_true rfl, Nat.le_of_ble_eq_true rfl⟩ 0 rfl rfl rfl rfl (Nat.le_of_ble_eq_true rfl) ⟨Nat.le_of_ble_eq_true rfl, Nat.le_of_ble_eq_true rfl⟩ dX12_tellSeries_6 (fun v ty' w' hp hk' => ?_)
      rcases hp with ⟨hC, rfl, rfl⟩ | ⟨hC, rfl, rfl⟩
      · skip
        replace hF := FE.pos hF hC
        show GW κ 2 0 0 (wM r g I15258 A15258 L15258) 9 [(0, .ref (r 0))] [.int 0]
        refine g_if_ne (tgt := 21) (a := 0) hk dX12_tellSeries_9 (by decide) rfl (fun z9 => absurd z9 (show ¬ ((0 : Int) ≠ (0 : Int)) from by decide)) (fun _ => ?_)
        refine g_aload_n hk dX12_tellSeries_12 rfl ?_
        refine g_bipush (v := 26) hk dX12_tellSeries_13 (by decide) ?_
        have k16301 : (26 : Int32).toInt = 26 := rfl
        refine g_callV (n := 1) hk (j125_X12_is l D zt r g I15258 A15258 L15258 26 hV15258) (SP.same _) (fun _ h => h) (gi_V (List.mem_cons_of_mem _ (List.mem_append_left _ (List.mem_of_getElem? (i := 5) rfl))) (List.mem_cons_of_mem _ (List.mem_append_left _ (List.mem_of_getElem? (i := 6) rfl))) (List.mem_cons_of_mem _ (List.mem_append_left _ (List.mem_of_getElem? (i := 7) rfl))) (List.mem_cons_of_mem _ (List.mem_append_left _ (List.mem_of_getElem? (i := 4) rfl))) (gi_sub (fun w h => (List.mem_cons_of_mem _ (List.mem_append_right _ (List.mem_append_right _ (List.mem_append_right _ (List.mem_append_left _ h)))))) zg_j125_X12_is)) rfl rfl rfl (by decide +kernel) ⟨Nat.le_of_ble_eq_true rfl, Nat.le_of_ble_eq_true rfl⟩ 0 rfl rfl rfl rfl (Nat.le_of_ble_eq_true rfl) ⟨Nat.le_of_ble_eq_true rfl, Nat.le_of_ble_eq_true rfl⟩ dX12_tellSeries_15 (fun v ty' w' hp hk' => ?_)
        rcases hp with ⟨c16302, hC, rfl, rfl⟩ | ⟨c16304, hC, rfl, rfl⟩
        · skip
          replace hF := FE.pos hF hC
          rw [show (A15258 2 (I15258 4).toNatClampNeg) = (A 2 (I15258 4).toNatClampNeg) from (congrFun (hA15258 2 rfl) _)] at c16302
          show GW κ 2 0 0 (wM r g I15258 A15258 L15258) 18 [(0, .ref (r 0))] [.int 0]
          refine g_if_eq (tgt := 134) (a := 0) hk dX12_tellSeries_18 (by decide) rfl (fun _ => ?_) (fun z9 => absurd (show (0 : Int) = (0 : Int) from by decide) z9)
          refine g_aload_n hk dX12_tellSeries_134 rfl ?_
          refine g_iconst (v := 4) hk dX12_tellSeries_135 (by decide) ?_
          have k16306 : (4 : Int32).toInt = 4 := rfl
          refine g_callV (n := 1) hk (j131_X12_must l D zt r g I15258 A15258 L15258 4 hV15258) (SP.same _) (fun _ h => h) (gi_V (List.mem_cons_of_mem _ (List.mem_append_left _ (List.mem_of_getElem? (i := 8) rfl))) (List.mem_cons_of_mem _ (List.mem_append_left _ (List.mem_of_getElem? (i := 9) rfl))) (List.mem_cons_of_mem _ (List.mem_append_left _ (List.mem_of_getElem? (i := 10) rfl))) (List.mem_cons_of_mem _ (List.mem_append_left _ (List.mem_of_getElem? (i := 4) rfl))) (gi_sub (fun w h => (List.mem_cons_of_mem _ (List.mem_append_right _ (List.mem_append_right _ (List.mem_append_right _ (List.mem_append_right _ (List.mem_append_left _ h))))))) zg_j131_X12_must)) rfl rfl rfl (by decide +kernel) ⟨Nat.le_of_ble_eq_true rfl, Nat.le_of_ble_eq_true rfl⟩ 0 rfl rfl rfl rfl (Nat.le_of_ble_eq_true rfl) ⟨Nat.le_of_ble_eq_true rfl, Nat.le_of_ble_eq_true rfl⟩ dX12_tellSeries_136 (fun v ty' w' hp hk' => ?_)
          obtain ⟨I16308, A16308, L16308, hI16308, hA16308, hV16308, r16309, r16310, r16311, r16312, r16313, hL16308, hC, rfl, rfl⟩ := hp
          replace hF := FE.bdM hF hC
          have f16314 := IvM_f4 hV16308
          have f16315 := IvM_f6 hV16308
          rw [show (I16308 8) = (I15258 8) from (hI16308 8 rfl)] at r16311
          rw [show (A15258 2 (I15258 4).toNatClampNeg) = (A 2 (I15258 4).toNatClampNeg) from (congrFun (hA15258 2 rfl) _)] at r16313
          show GW κ 2 0 0 (wM r g I16308 A16308 L16308) 139 [(0, .ref (r 0))] []
          refine g_aload_n hk dX12_tellSeries_139 rfl ?_
          refine gM_i6 (v := (I16308 6)) hk hin12 (List.mem_cons_of_mem _ (List.mem_append_left _ (List.mem_of_getElem? (i := 11) rfl))) dX12_tellSeries_140 rfl ?_
          refine g_if_ne (tgt := 152) (a := (I16308 6).toInt) hk dX12_tellSeries_143 (by decide) rfl (fun c16316 => ?_) (fun c16316 => ?_)
          · skip
            replace hF := FE.pos hF c16316
            have f16317 := IvM_f4 hIv
            have f16318 := IvM_f6 hIv
            have f16319 := IvM_f8 hIv
            exact g_vret hk hR ⟨I16308, A16308, L16308, (show Md [4, 6, 7, 8, 9, 11, 12, 13] I I16308 from (Md.tr (Md.tr (Md.up Md.rf rfl) hI15258 rfl) hI16308 rfl)), (show Md [8, 9] A A16308 from (Md.tr (Md.tr Md.rf hA15258 rfl) hA16308 rfl)), hV16308, (by omega), (by omega), (by rw [show (I16308 8) = (I15258 8) from (hI16308 8 rfl)] <;> omega), (show L16308 = L from (hL16308.trans hL15258)), hF, rfl, rfl⟩ dX12_tellSeries_152
          · skip
            replace hF := FE.neg hF c16316
            refine g_aload_n hk dX12_tellSeries_146 rfl ?_
            refine g_bipush (v := (-2)) hk dX12_tellSeries_147 (by decide) ?_
            refine pM_i11 hk hin12 (List.mem_cons_of_mem _ (List.mem_append_left _ (List.mem_of_getElem? (i := 0) rfl))) dX12_tellSeries_149 ?_
            have f16320 := IvM_f4 hIv
            have f16321 := IvM_f6 hIv
            have f16322 := IvM_f8 hIv
            exact g_vret hk hR ⟨(upd I16308 11 (-2)), A16308, L16308, (show Md [4, 6, 7, 8, 9, 11, 12, 13] I (upd I16308 11 (-2)) from (Md.up (Md.tr (Md.tr (Md.up Md.rf rfl) hI15258 rfl) hI16308 rfl) rfl)), (show Md [8, 9] A A16308 from (Md.tr (Md.tr Md.rf hA15258 rfl) hA16308 rfl)), ⟨(IvM_f1 (I := I16308) (A := A16308) hV16308), (IvM_f2 (I := I16308) (A := A16308) hV16308), (IvM_f3 (I := I16308) (A := A16308) hV16308), (IvM_f4 (I := I16308) (A := A16308) hV16308), (IvM_f6 (I := I16308) (A := A16308) hV16308), (IvM_f8 (I := I16308) (A := A16308) hV16308), (IvM_f15 (I := I16308) (A := A16308) hV16308), (IvM_f16 (I := I16308) (A := A16308) hV16308), (IvM_f17 (I := I16308) (A := A16308) hV16308), (IvM_f18 (I := I16308) (A := A16308) hV16308), (IvM_f22 (I := I16308) (A := A16308) hV16308), (IvM_f23 (I := I16308) (A := A16308) hV16308), (IvM_f24 (I := I16308) (A := A16308) hV16308), (IvM_a11 (I := I16308) (A := A16308) hV16308), (IvM_a26 (I := I16308) (A := A16308) hV16308), (IvM_s8_0 (I := I16308) (A := A16308) hV16308), (IvM_s8_1 (I := I16308) (A := A16308) hV16308), (IvM_s10_0 (I := I16308) (A := A16308) hV16308), (IvM_s10_1 (I := I16308) (A := A16308) hV16308), (IvM_s17_0 (I := I16308) (A := A16308) hV16308), (IvM_s17_164 (I := I16308) (A := A16308) hV16308), (IvM_lv (I := I16308) (A := A16308) hV16308), (IvM_sd (I := I16308) (A := A16308) hV16308), (IvM_nq (I := I16308) (A := A16308) hV16308), (IvM_hr (I := I16308) (A := A16308) hV16308), (IvM_hh (I := I16308) (A := A16308) hV16308), trivial⟩, (by rw [show ((upd I16308 11 (-2)) 4) = (I16308 4) from rfl] <;> omega), (by rw [show ((upd I16308 11 (-2)) 6) = (I16308 6) from rfl] <;> omega), (by rw [show ((upd I16308 11 (-2)) 8) = (I15258 8) from (hI16308 8 rfl)] <;> omega), (show L16308 = L from (hL16308.trans hL15258)), hF, rfl, rfl⟩ dX12_tellSeries_152
        · skip
          replace hF := FE.neg hF (fe_ne hC (by decide))
          rw [show (A15258 2 (I15258 4).toNatClampNeg) = (A 2 (I15258 4).toNatClampNeg) from (congrFun (hA15258 2 rfl) _)] at c16304
          show GW κ 2 0 0 (wM r g I15258 A15258 L15258) 18 [(0, .ref (r 0))] [.int 1]
          refine g_if_eq (tgt := 134) (a := 1) hk dX12_tellSeries_18 (by decide) rfl (fun z9 => absurd z9 (show ¬ ((1 : Int) = (0 : Int)) from by decide)) (fun _ => ?_)
          refine g_aload_n hk dX12_tellSeries_21 rfl ?_
          refine gM_r0_26 hk hin12 (List.mem_cons_of_mem _ (List.mem_append_left _ (List.mem_of_getElem? (i := 12) rfl))) dX12_tellSeries_22 ?_
          refine g_aload_n hk dX12_tellSeries_25 rfl ?_
          refine gM_i16 (v := (I 16)) hk hin12 (List.mem_cons_of_mem _ (List.mem_append_left _ (List.mem_of_getElem? (i := 13) rfl))) dX12_tellSeries_26 (hI15258 16 rfl) ?_
          have f16323 := IvM_f16 hIv
          by_cases c16324 : (I 16).toInt = 0
          · have ec16324 : (I 16) = 0 := Int32.toInt_inj.mp c16324
            replace hF := FE.pos hF c16324
            rw [ec16324]
            show GW κ 2 0 0 (wM r g I15258 A15258 L15258) 29 [(0, .ref (r 0))] [.int 0, .ref (r 9)]
            refine lM_8 (v := (A15258 8 0)) hk (vp_in_iff.mpr ⟨by decide, by decide⟩) rfl dX12_tellSeries_29 ?_
            have f16325 := IvM_s8_0 hV15258
            refine g_sipush (v := 160) hk dX12_tellSeries_30 (by decide) ?_
            refine g_icmp_ne (tgt := 41) (a := (A15258 8 0).toInt) (b := 160) hk dX12_tellSeries_33 (by decide) rfl rfl (fun c16326 => ?_) (fun c16326 => ?_)
            · skip
              replace hF := FE.pos hF c16326
              refine g_aload_n hk dX12_tellSeries_41 rfl ?_
              refine gM_i6 (v := (I15258 6)) hk hin12 (List.mem_cons_of_mem _ (List.mem_append_left _ (List.mem_of_getElem? (i := 11) rfl))) dX12_tellSeries_42 rfl ?_
              refine g_if_le (tgt := 49) (a := (I15258 6).toInt) hk dX12_tellSeries_45 (by decide) rfl (fun c16327 => ?_) (fun c16327 => ?_)
              · skip
                replace hF := FE.pos hF c16327
                refine g_aload_n hk dX12_tellSeries_49 rfl ?_
                refine g_bipush (v := 26) hk dX12_tellSeries_50 (by decide) ?_
                refine g_callV (n := 1) hk (j125_X12_is l D zt r g I15258 A15258 L15258 26 hV15258) (SP.same _) (fun _ h => h) (gi_V (List.mem_cons_of_mem _ (List.mem_append_left _ (List.mem_of_getElem? (i := 5) rfl))) (List.mem_cons_of_mem _ (List.mem_append_left _ (List.mem_of_getElem? (i := 6) rfl))) (List.mem_cons_of_mem _ (List.mem_append_left _ (List.mem_of_getElem? (i := 7) rfl))) (List.mem_cons_of_mem _ (List.mem_append_left _ (List.mem_of_getElem? (i := 4) rfl))) (gi_sub (fun w h => (List.mem_cons_of_mem _ (List.mem_append_right _ (List.mem_append_right _ (List.mem_append_right _ (List.mem_append_left _ h)))))) zg_j125_X12_is)) rfl rfl rfl (by decide +kernel) ⟨Nat.le_of_ble_eq_true rfl, Nat.le_of_ble_eq_true rfl⟩ 0 rfl rfl rfl rfl (Nat.le_of_ble_eq_true rfl) ⟨Nat.le_of_ble_eq_true rfl, Nat.le_of_ble_eq_true rfl⟩ dX12_tellSeries_52 (fun v ty' w' hp hk' => ?_)
                rcases hp with ⟨c16328, hC, rfl, rfl⟩ | ⟨c16330, hC, rfl, rfl⟩
                · skip
                  replace hF := FE.pos hF hC
                  rw [show (A15258 2 (I15258 4).toNatClampNeg) = (A 2 (I15258 4).toNatClampNeg) from (congrFun (hA15258 2 rfl) _)] at c16328
                  show GW κ 2 0 0 (wM r g I15258 A15258 L15258) 55 [(0, .ref (r 0))] [.int 0]
                  refine g_istore_n (lv' := [(1, .int 0), (0, .ref (r 0))]) hk dX12_tellSeries_55 (by decide) rfl ?_
                  refine g_iload_n hk dX12_tellSeries_56 rfl ?_
                  refine g_if_eq (tgt := 64) (a := 0) hk dX12_tellSeries_57 (by decide) rfl (fun _ => ?_) (fun z9 => absurd (show (0 : Int) = (0 : Int) from by decide) z9)
                  refine g_aload_n hk dX12_tellSeries_64 rfl ?_
                  refine gM_r0_27 hk hin12 (List.mem_cons_of_mem _ (List.mem_append_left _ (List.mem_of_getElem? (i := 14) rfl))) dX12_tellSeries_65 ?_
                  refine g_sipush (v := 160) hk dX12_tellSeries_68 (by decide) ?_
                  refine g_aload_n hk dX12_tellSeries_71 rfl ?_
                  refine gM_i16 (v := (I 16)) hk hin12 (List.mem_cons_of_mem _ (List.mem_append_left _ (List.mem_of_getElem? (i := 13) rfl))) dX12_tellSeries_72 (hI15258 16 rfl) ?_
                  by_cases c16332 : (I 16).toInt = 0
                  · have ec16332 : (I 16) = 0 := Int32.toInt_inj.mp c16332
                    replace hF := FE.pos hF c16332
                    rw [ec16332]
                    show GW κ 2 0 0 (wM r g I15258 A15258 L15258) 75 [(1, .int 0), (0, .ref (r 0))] [.int 0, .int 160, .ref (r 10)]
                    refine g_imul hk dX12_tellSeries_75 ?_
                    refine g_norm (v := 0) (by decide) ?_
                    refine g_aload_n hk dX12_tellSeries_76 rfl ?_
                    refine gM_r0_26 hk hin12 (List.mem_cons_of_mem _ (List.mem_append_left _ (List.mem_of_getElem? (i := 12) rfl))) dX12_tellSeries_77 ?_
                    refine g_aload_n hk dX12_tellSeries_80 rfl ?_
                    refine gM_i16 (v := (I 16)) hk hin12 (List.mem_cons_of_mem _ (List.mem_append_left _ (List.mem_of_getElem? (i := 13) rfl))) dX12_tellSeries_81 (hI15258 16 rfl) ?_
                    by_cases c16333 : (I 16).toInt = 0
                    · have ec16333 : (I 16) = 0 := Int32.toInt_inj.mp c16333
                      replace hF := FE.pos hF c16333
                      rw [ec16333]
                      show GW κ 2 0 0 (wM r g I15258 A15258 L15258) 84 [(1, .int 0), (0, .ref (r 0))] [.int 0, .ref (r 9), .int 0, .ref (r 10)]
                      refine lM_8 (v := (A15258 8 0)) hk (vp_in_iff.mpr ⟨by decide, by decide⟩) rfl dX12_tellSeries_84 ?_
                      refine g_iadd hk dX12_tellSeries_85 ?_
                      refine g_topi (fun y16334 ey16334 => ?_)
                      replace hF := FE.lt hF ey16334
                      have hy16334 : y16334.toInt = 0 + (A15258 8 0).toInt := i32_add ey16334 rfl rfl (by omega) (by omega)
                      refine g_iload_n hk dX12_tellSeries_86 rfl ?_
                      refine g_if_eq (tgt := 95) (a := 0) hk dX12_tellSeries_87 (by decide) rfl (fun _ => ?_) (fun z9 => absurd (show (0 : Int) = (0 : Int) from by decide) z9)
                      refine g_aload_n hk dX12_tellSeries_95 rfl ?_
                      refine g_callV (n := 0) hk (j132_X12_readingTold l D zt r g I15258 A15258 L15258  hV15258) (SP.same _) (fun _ h => h) (gi_V (List.mem_cons_of_mem _ (List.mem_append_left _ (List.mem_of_getElem? (i := 15) rfl))) (List.mem_cons_of_mem _ (List.mem_append_left _ (List.mem_of_getElem? (i := 16) rfl))) (List.mem_cons_of_mem _ (List.mem_append_left _ (List.mem_of_getElem? (i := 17) rfl))) (List.mem_cons_of_mem _ (List.mem_append_left _ (List.mem_of_getElem? (i := 4) rfl))) (gi_sub (fun w h => (List.mem_cons_of_mem _ (List.mem_append_right _ (List.mem_append_right _ (List.mem_append_right _ (List.mem_append_right _ (List.mem_append_right _ (List.mem_append_left _ h)))))))) zg_j132_X12_readingTold)) rfl rfl rfl (by decide +kernel) ⟨Nat.le_of_ble_eq_true rfl, Nat.le_of_ble_eq_true rfl⟩ 0 rfl rfl rfl rfl (Nat.le_of_ble_eq_true rfl) ⟨Nat.le_of_ble_eq_true rfl, Nat.le_of_ble_eq_true rfl⟩ dX12_tellSeries_96 (fun v ty' w' hp hk' => ?_)
                      obtain ⟨I16336, A16336, L16336, hI16336, hA16336, hV16336, y16335, r16337, r16338, r16339, r16340, hL16336, hC, rfl, rfl⟩ := hp
                      replace hF := FE.bdM hF hC
                      have f16341 := IvM_f4 hV16336
                      have f16342 := IvM_f6 hV16336
                      have f16343 := IvM_f8 hV16336
                      show GW κ 2 0 0 (wM r g I16336 A16336 L16336) 99 [(1, .int 0), (0, .ref (r 0))] [.int y16335, .int y16334, .ref (r 10)]
                      refine sM_9 (j := y16334.toNatClampNeg) hk (vp_in_iff.mpr ⟨by omega, by omega⟩) rfl dX12_tellSeries_99 ?_
                      refine g_aload_n hk dX12_tellSeries_100 rfl ?_
                      refine gM_i6 (v := (I16336 6)) hk hin12 (List.mem_cons_of_mem _ (List.mem_append_left _ (List.mem_of_getElem? (i := 11) rfl))) dX12_tellSeries_101 rfl ?_
                      refine g_if_le (tgt := 108) (a := (I16336 6).toInt) hk dX12_tellSeries_104 (by decide) rfl (fun c16344 => ?_) (fun c16344 => ?_)
                      · skip
                        replace hF := FE.pos hF c16344
                        refine g_aload_n hk dX12_tellSeries_108 rfl ?_
                        refine gM_r0_26 hk hin12 (List.mem_cons_of_mem _ (List.mem_append_left _ (List.mem_of_getElem? (i := 12) rfl))) dX12_tellSeries_109 ?_
                        refine g_aload_n hk dX12_tellSeries_112 rfl ?_
                        refine gM_i16 (v := (I 16)) hk hin12 (List.mem_cons_of_mem _ (List.mem_append_left _ (List.mem_of_getElem? (i := 13) rfl))) dX12_tellSeries_113 ((hI16336 16 rfl).trans (hI15258 16 rfl)) ?_
                        by_cases c16345 : (I 16).toInt = 0
                        · have ec16345 : (I 16) = 0 := Int32.toInt_inj.mp c16345
                          replace hF := FE.pos hF c16345
                          rw [ec16345]
                          show GW κ 2 0 0 (wM r g I16336 (up3 A16336 9 (y16334.toNatClampNeg) y16335) L16336) 116 [(1, .int 0), (0, .ref (r 0))] [.int 0, .ref (r 9)]
                          refine g_dup2 hk dX12_tellSeries_116 rfl rfl ?_
                          refine lM_8 (v := (A15258 8 0)) hk (vp_in_iff.mpr ⟨by decide, by decide⟩) (congrFun (hA16336 8 rfl) _) dX12_tellSeries_117 ?_
                          refine g_iconst (v := 1) hk dX12_tellSeries_118 (by decide) ?_
                          refine g_iadd hk dX12_tellSeries_119 ?_
                          refine g_topi (fun y16346 ey16346 => ?_)
                          replace hF := FE.lt hF ey16346
                          have hy16346 : y16346.toInt = (A15258 8 0).toInt + 1 := i32_add ey16346 rfl rfl (by omega) (by omega)
                          refine sM_8 (j := 0) hk (vp_in_iff.mpr ⟨by decide, by decide⟩) (by decide) dX12_tellSeries_120 ?_
                          have f16347 := IvM_s8_0 hV16336
                          have f16348 := IvM_s8_1 hV16336
                          refine g_aload_n hk dX12_tellSeries_121 rfl ?_
                          refine g_dup hk dX12_tellSeries_122 rfl ?_
                          refine gM_i11 (v := (I15258 11)) hk hin12 (List.mem_cons_of_mem _ (List.mem_append_left _ (List.mem_of_getElem? (i := 0) rfl))) dX12_tellSeries_123 (hI16336 11 rfl) ?_
                          refine g_iconst (v := 1) hk dX12_tellSeries_126 (by decide) ?_
                          have b16349l := Int32.le_toInt (I15258 11)
                          have b16349h := Int32.toInt_lt (I15258 11)
                          refine g_iadd hk dX12_tellSeries_127 ?_
                          refine g_topi (fun y16350 ey16350 => ?_)
                          replace hF := FE.lt hF ey16350
                          refine pM_i11 hk hin12 (List.mem_cons_of_mem _ (List.mem_append_left _ (List.mem_of_getElem? (i := 0) rfl))) dX12_tellSeries_128 ?_
                          refine g_goto (tgt := 5) hk dX12_tellSeries_131 (by decide) ?_
                          exact g_lv (List.forall_mem_cons.mpr ⟨List.mem_of_getElem? (i := 1) rfl, (fun _ h => absurd h List.not_mem_nil)⟩) (ih16295 (upd I16336 11 y16350) (up3 (up3 A16336 9 (y16334.toNatClampNeg) y16335) 8 0 y16346) L16336 (show Md [4, 6, 7, 8, 9, 11, 12, 13] (upd I 11 0) (upd I16336 11 y16350) from Md.tr hI15258 (show Md [4, 6, 7, 8, 9, 11, 12, 13] I15258 (upd I16336 11 y16350) from (Md.up (Md.tr Md.rf hI16336 rfl) rfl)) rfl) (show Md [8, 9] A (up3 (up3 A16336 9 (y16334.toNatClampNeg) y16335) 8 0 y16346) from Md.tr hA15258 (show Md [8, 9] A15258 (up3 (up3 A16336 9 (y16334.toNatClampNeg) y16335) 8 0 y16346) from (Md.up3 (Md.up3 (Md.tr Md.rf hA16336 rfl) rfl) rfl)) rfl) ⟨(IvM_f1 (I := I16336) (A := A16336) hV16336), (IvM_f2 (I := I16336) (A := A16336) hV16336), (IvM_f3 (I := I16336) (A := A16336) hV16336), (IvM_f4 (I := I16336) (A := A16336) hV16336), (IvM_f6 (I := I16336) (A := A16336) hV16336), (IvM_f8 (I := I16336) (A := A16336) hV16336), (IvM_f15 (I := I16336) (A := A16336) hV16336), (IvM_f16 (I := I16336) (A := A16336) hV16336), (IvM_f17 (I := I16336) (A := A16336) hV16336), (IvM_f18 (I := I16336) (A := A16336) hV16336), (IvM_f22 (I := I16336) (A := A16336) hV16336), (IvM_f23 (I := I16336) (A := A16336) hV16336), (IvM_f24 (I := I16336) (A := A16336) hV16336), (IvM_a11 (I := I16336) (A := A16336) hV16336), (IvM_a26 (I := I16336) (A := A16336) hV16336), (show 0 ≤ ((up3 (up3 A16336 9 (y16334.toNatClampNeg) y16335) 8 0 y16346) 8 0).toInt ∧ ((up3 (up3 A16336 9 (y16334.toNatClampNeg) y16335) 8 0 y16346) 8 0).toInt ≤ 160 from by rw [show (up3 (up3 A16336 9 (y16334.toNatClampNeg) y16335) 8 0 y16346) 8 0 = y16346 from rfl]; exact ⟨by omega, by omega⟩), (show 0 ≤ ((up3 (up3 A16336 9 (y16334.toNatClampNeg) y16335) 8 0 y16346) 8 1).toInt ∧ ((up3 (up3 A16336 9 (y16334.toNatClampNeg) y16335) 8 0 y16346) 8 1).toInt ≤ 160 from by rw [show (up3 (up3 A16336 9 (y16334.toNatClampNeg) y16335) 8 0 y16346) 8 1 = (A16336 8 1) from rfl]; exact (IvM_s8_1 (I := I16336) (A := A16336) hV16336)), (IvM_s10_0 (I := I16336) (A := A16336) hV16336), (IvM_s10_1 (I := I16336) (A := A16336) hV16336), (IvM_s17_0 (I := I16336) (A := A16336) hV16336), (IvM_s17_164 (I := I16336) (A := A16336) hV16336), (IvM_lv (I := I16336) (A := A16336) hV16336), (IvM_sd (I := I16336) (A := A16336) hV16336), (IvM_nq (I := I16336) (A := A16336) hV16336), (IvM_hr (I := I16336) (A := A16336) hV16336), (IvM_hh (I := I16336) (A := A16336) hV16336), trivial⟩ (show L16336 = L from (hL16336.trans hL15258)) (by first | (rw [show ((upd I16336 11 y16350) 4) = (I16336 4) from rfl] <;> omega) | omega) (by first | (rw [show ((upd I16336 11 y16350) 6) = (I16336 6) from rfl] <;> omega) | omega) (by first | (rw [show ((upd I16336 11 y16350) 8) = (I16336 8) from rfl] <;> omega) | omega) (by first | (rw [show ((upd I16336 11 y16350) 4) = (I16336 4) from rfl] <;> omega) | omega) (by omega) hF)
                        replace hF := FE.neg hF c16345
                        exfalso; omega
                      · skip
                        replace hF := FE.neg hF c16344
                        have f16351 := IvM_f4 hIv
                        have f16352 := IvM_f6 hIv
                        have f16353 := IvM_f8 hIv
                        exact g_vret hk hR ⟨I16336, (up3 A16336 9 (y16334.toNatClampNeg) y16335), L16336, (show Md [4, 6, 7, 8, 9, 11, 12, 13] I I16336 from (Md.tr (Md.tr (Md.up Md.rf rfl) hI15258 rfl) hI16336 rfl)), (show Md [8, 9] A (up3 A16336 9 (y16334.toNatClampNeg) y16335) from (Md.up3 (Md.tr (Md.tr Md.rf hA15258 rfl) hA16336 rfl) rfl)), ⟨(IvM_f1 (I := I16336) (A := A16336) hV16336), (IvM_f2 (I := I16336) (A := A16336) hV16336), (IvM_f3 (I := I16336) (A := A16336) hV16336), (IvM_f4 (I := I16336) (A := A16336) hV16336), (IvM_f6 (I := I16336) (A := A16336) hV16336), (IvM_f8 (I := I16336) (A := A16336) hV16336), (IvM_f15 (I := I16336) (A := A16336) hV16336), (IvM_f16 (I := I16336) (A := A16336) hV16336), (IvM_f17 (I := I16336) (A := A16336) hV16336), (IvM_f18 (I := I16336) (A := A16336) hV16336), (IvM_f22 (I := I16336) (A := A16336) hV16336), (IvM_f23 (I := I16336) (A := A16336) hV16336), (IvM_f24 (I := I16336) (A := A16336) hV16336), (IvM_a11 (I := I16336) (A := A16336) hV16336), (IvM_a26 (I := I16336) (A := A16336) hV16336), (IvM_s8_0 (I := I16336) (A := A16336) hV16336), (IvM_s8_1 (I := I16336) (A := A16336) hV16336), (IvM_s10_0 (I := I16336) (A := A16336) hV16336), (IvM_s10_1 (I := I16336) (A := A16336) hV16336), (IvM_s17_0 (I := I16336) (A := A16336) hV16336), (IvM_s17_164 (I := I16336) (A := A16336) hV16336), (IvM_lv (I := I16336) (A := A16336) hV16336), (IvM_sd (I := I16336) (A := A16336) hV16336), (IvM_nq (I := I16336) (A := A16336) hV16336), (IvM_hr (I := I16336) (A := A16336) hV16336), (IvM_hh (I := I16336) (A := A16336) hV16336), trivial⟩, (by omega), (by omega), (by omega), (show L16336 = L from (hL16336.trans hL15258)), hF, rfl, rfl⟩ dX12_tellSeries_107
                    replace hF := FE.neg hF c16333
                    exfalso; omega
                  replace hF := FE.neg hF c16332
                  exfalso; omega
                · skip
                  replace hF := FE.neg hF (fe_ne hC (by decide))
                  rw [show (A15258 2 (I15258 4).toNatClampNeg) = (A 2 (I15258 4).toNatClampNeg) from (congrFun (hA15258 2 rfl) _)] at c16330
                  show GW κ 2 0 0 (wM r g I15258 A15258 L15258) 55 [(0, .ref (r 0))] [.int 1]
                  refine g_istore_n (lv' := [(1, .int 1), (0, .ref (r 0))]) hk dX12_tellSeries_55 (by decide) rfl ?_
                  refine g_iload_n hk dX12_tellSeries_56 rfl ?_
                  refine g_if_eq (tgt := 64) (a := 1) hk dX12_tellSeries_57 (by decide) rfl (fun z9 => absurd z9 (show ¬ ((1 : Int) = (0 : Int)) from by decide)) (fun _ => ?_)
                  refine g_aload_n hk dX12_tellSeries_60 rfl ?_
                  refine g_callV (n := 0) hk (j127_X12_goesOn l D zt r g I15258 A15258 L15258  hV15258) (SP.same _) (fun _ h => h) (gi_V (List.mem_cons_of_mem _ (List.mem_append_left _ (List.mem_of_getElem? (i := 18) rfl))) (List.mem_cons_of_mem _ (List.mem_append_left _ (List.mem_of_getElem? (i := 19) rfl))) (List.mem_cons_of_mem _ (List.mem_append_left _ (List.mem_of_getElem? (i := 20) rfl))) (List.mem_cons_of_mem _ (List.mem_append_left _ (List.mem_of_getElem? (i := 4) rfl))) (gi_sub (fun w h => (List.mem_cons_of_mem _ (List.mem_append_right _ (List.mem_append_right _ (List.mem_append_right _ (List.mem_append_right _ (List.mem_append_right _ (List.mem_append_right _ (List.mem_append_left _ h))))))))) zg_j127_X12_goesOn)) rfl rfl rfl (by decide +kernel) ⟨Nat.le_of_ble_eq_true rfl, Nat.le_of_ble_eq_true rfl⟩ 0 rfl rfl rfl rfl (Nat.le_of_ble_eq_true rfl) ⟨Nat.le_of_ble_eq_true rfl, Nat.le_of_ble_eq_true rfl⟩ dX12_tellSeries_61 (fun v ty' w' hp hk' => ?_)
                  obtain ⟨I16355, A16355, L16355, hI16355, hA16355, hV16355, r16356, r16357, r16358, r16359, hL16355, hC, rfl, rfl⟩ := hp
                  replace hF := FE.bdM hF hC
                  have f16360 := IvM_f4 hV16355
                  have f16361 := IvM_f6 hV16355
                  rw [show (I16355 8) = (I15258 8) from (hI16355 8 rfl)] at r16358
                  show GW κ 2 0 0 (wM r g I16355 A16355 L16355) 64 [(1, .int 1), (0, .ref (r 0))] []
                  refine g_aload_n hk dX12_tellSeries_64 rfl ?_
                  refine gM_r0_27 hk hin12 (List.mem_cons_of_mem _ (List.mem_append_left _ (List.mem_of_getElem? (i := 14) rfl))) dX12_tellSeries_65 ?_
                  refine g_sipush (v := 160) hk dX12_tellSeries_68 (by decide) ?_
                  refine g_aload_n hk dX12_tellSeries_71 rfl ?_
                  refine gM_i16 (v := (I 16)) hk hin12 (List.mem_cons_of_mem _ (List.mem_append_left _ (List.mem_of_getElem? (i := 13) rfl))) dX12_tellSeries_72 ((hI16355 16 rfl).trans (hI15258 16 rfl)) ?_
                  by_cases c16362 : (I 16).toInt = 0
                  · have ec16362 : (I 16) = 0 := Int32.toInt_inj.mp c16362
                    replace hF := FE.pos hF c16362
                    rw [ec16362]
                    show GW κ 2 0 0 (wM r g I16355 A16355 L16355) 75 [(1, .int 1), (0, .ref (r 0))] [.int 0, .int 160, .ref (r 10)]
                    refine g_imul hk dX12_tellSeries_75 ?_
                    refine g_norm (v := 0) (by decide) ?_
                    refine g_aload_n hk dX12_tellSeries_76 rfl ?_
                    refine gM_r0_26 hk hin12 (List.mem_cons_of_mem _ (List.mem_append_left _ (List.mem_of_getElem? (i := 12) rfl))) dX12_tellSeries_77 ?_
                    refine g_aload_n hk dX12_tellSeries_80 rfl ?_
                    refine gM_i16 (v := (I 16)) hk hin12 (List.mem_cons_of_mem _ (List.mem_append_left _ (List.mem_of_getElem? (i := 13) rfl))) dX12_tellSeries_81 ((hI16355 16 rfl).trans (hI15258 16 rfl)) ?_
                    by_cases c16363 : (I 16).toInt = 0
                    · have ec16363 : (I 16) = 0 := Int32.toInt_inj.mp c16363
                      replace hF := FE.pos hF c16363
                      rw [ec16363]
                      show GW κ 2 0 0 (wM r g I16355 A16355 L16355) 84 [(1, .int 1), (0, .ref (r 0))] [.int 0, .ref (r 9), .int 0, .ref (r 10)]
                      refine lM_8 (v := (A15258 8 0)) hk (vp_in_iff.mpr ⟨by decide, by decide⟩) (congrFun (hA16355 8 rfl) _) dX12_tellSeries_84 ?_
                      refine g_iadd hk dX12_tellSeries_85 ?_
                      refine g_topi (fun y16364 ey16364 => ?_)
                      replace hF := FE.lt hF ey16364
                      have hy16364 : y16364.toInt = 0 + (A15258 8 0).toInt := i32_add ey16364 rfl rfl (by omega) (by omega)
                      refine g_iload_n hk dX12_tellSeries_86 rfl ?_
                      refine g_if_eq (tgt := 95) (a := 1) hk dX12_tellSeries_87 (by decide) rfl (fun z9 => absurd z9 (show ¬ ((1 : Int) = (0 : Int)) from by decide)) (fun _ => ?_)
                      refine g_ldc (v := 100000) hk (List.mem_cons_of_mem _ (List.mem_append_left _ (List.mem_of_getElem? (i := 21) rfl))) dX12_tellSeries_90 ?_
                      refine g_goto (tgt := 99) hk dX12_tellSeries_92 (by decide) ?_
                      have k16365 : (100000 : Int32).toInt = 100000 := rfl
                      refine sM_9 (j := y16364.toNatClampNeg) hk (vp_in_iff.mpr ⟨by omega, by omega⟩) rfl dX12_tellSeries_99 ?_
                      refine g_aload_n hk dX12_tellSeries_100 rfl ?_
                      refine gM_i6 (v := (I16355 6)) hk hin12 (List.mem_cons_of_mem _ (List.mem_append_left _ (List.mem_of_getElem? (i := 11) rfl))) dX12_tellSeries_101 rfl ?_
                      refine g_if_le (tgt := 108) (a := (I16355 6).toInt) hk dX12_tellSeries_104 (by decide) rfl (fun c16366 => ?_) (fun c16366 => ?_)
                      · skip
                        replace hF := FE.pos hF c16366
                        refine g_aload_n hk dX12_tellSeries_108 rfl ?_
                        refine gM_r0_26 hk hin12 (List.mem_cons_of_mem _ (List.mem_append_left _ (List.mem_of_getElem? (i := 12) rfl))) dX12_tellSeries_109 ?_
                        refine g_aload_n hk dX12_tellSeries_112 rfl ?_
                        refine gM_i16 (v := (I 16)) hk hin12 (List.mem_cons_of_mem _ (List.mem_append_left _ (List.mem_of_getElem? (i := 13) rfl))) dX12_tellSeries_113 ((hI16355 16 rfl).trans (hI15258 16 rfl)) ?_
                        by_cases c16367 : (I 16).toInt = 0
                        · have ec16367 : (I 16) = 0 := Int32.toInt_inj.mp c16367
                          replace hF := FE.pos hF c16367
                          rw [ec16367]
                          show GW κ 2 0 0 (wM r g I16355 (up3 A16355 9 (y16364.toNatClampNeg) 100000) L16355) 116 [(1, .int 1), (0, .ref (r 0))] [.int 0, .ref (r 9)]
                          refine g_dup2 hk dX12_tellSeries_116 rfl rfl ?_
                          refine lM_8 (v := (A15258 8 0)) hk (vp_in_iff.mpr ⟨by decide, by decide⟩) (congrFun (hA16355 8 rfl) _) dX12_tellSeries_117 ?_
                          refine g_iconst (v := 1) hk dX12_tellSeries_118 (by decide) ?_
                          refine g_iadd hk dX12_tellSeries_119 ?_
                          refine g_topi (fun y16368 ey16368 => ?_)
                          replace hF := FE.lt hF ey16368
                          have hy16368 : y16368.toInt = (A15258 8 0).toInt + 1 := i32_add ey16368 rfl rfl (by omega) (by omega)
                          refine sM_8 (j := 0) hk (vp_in_iff.mpr ⟨by decide, by decide⟩) (by decide) dX12_tellSeries_120 ?_
                          have f16369 := IvM_s8_0 hV16355
                          have f16370 := IvM_s8_1 hV16355
                          refine g_aload_n hk dX12_tellSeries_121 rfl ?_
                          refine g_dup hk dX12_tellSeries_122 rfl ?_
                          refine gM_i11 (v := (I15258 11)) hk hin12 (List.mem_cons_of_mem _ (List.mem_append_left _ (List.mem_of_getElem? (i := 0) rfl))) dX12_tellSeries_123 (hI16355 11 rfl) ?_
                          refine g_iconst (v := 1) hk dX12_tellSeries_126 (by decide) ?_
                          have b16371l := Int32.le_toInt (I15258 11)
                          have b16371h := Int32.toInt_lt (I15258 11)
                          refine g_iadd hk dX12_tellSeries_127 ?_
                          refine g_topi (fun y16372 ey16372 => ?_)
                          replace hF := FE.lt hF ey16372
                          refine pM_i11 hk hin12 (List.mem_cons_of_mem _ (List.mem_append_left _ (List.mem_of_getElem? (i := 0) rfl))) dX12_tellSeries_128 ?_
                          refine g_goto (tgt := 5) hk dX12_tellSeries_131 (by decide) ?_
                          exact g_lv (List.forall_mem_cons.mpr ⟨List.mem_of_getElem? (i := 1) rfl, (fun _ h => absurd h List.not_mem_nil)⟩) (ih16295 (upd I16355 11 y16372) (up3 (up3 A16355 9 (y16364.toNatClampNeg) 100000) 8 0 y16368) L16355 (show Md [4, 6, 7, 8, 9, 11, 12, 13] (upd I 11 0) (upd I16355 11 y16372) from Md.tr hI15258 (show Md [4, 6, 7, 8, 9, 11, 12, 13] I15258 (upd I16355 11 y16372) from (Md.up (Md.tr Md.rf hI16355 rfl) rfl)) rfl) (show Md [8, 9] A (up3 (up3 A16355 9 (y16364.toNatClampNeg) 100000) 8 0 y16368) from Md.tr hA15258 (show Md [8, 9] A15258 (up3 (up3 A16355 9 (y16364.toNatClampNeg) 100000) 8 0 y16368) from (Md.up3 (Md.up3 (Md.tr Md.rf hA16355 rfl) rfl) rfl)) rfl) ⟨(IvM_f1 (I := I16355) (A := A16355) hV16355), (IvM_f2 (I := I16355) (A := A16355) hV16355), (IvM_f3 (I := I16355) (A := A16355) hV16355), (IvM_f4 (I := I16355) (A := A16355) hV16355), (IvM_f6 (I := I16355) (A := A16355) hV16355), (IvM_f8 (I := I16355) (A := A16355) hV16355), (IvM_f15 (I := I16355) (A := A16355) hV16355), (IvM_f16 (I := I16355) (A := A16355) hV16355), (IvM_f17 (I := I16355) (A := A16355) hV16355), (IvM_f18 (I := I16355) (A := A16355) hV16355), (IvM_f22 (I := I16355) (A := A16355) hV16355), (IvM_f23 (I := I16355) (A := A16355) hV16355), (IvM_f24 (I := I16355) (A := A16355) hV16355), (IvM_a11 (I := I16355) (A := A16355) hV16355), (IvM_a26 (I := I16355) (A := A16355) hV16355), (show 0 ≤ ((up3 (up3 A16355 9 (y16364.toNatClampNeg) 100000) 8 0 y16368) 8 0).toInt ∧ ((up3 (up3 A16355 9 (y16364.toNatClampNeg) 100000) 8 0 y16368) 8 0).toInt ≤ 160 from by rw [show (up3 (up3 A16355 9 (y16364.toNatClampNeg) 100000) 8 0 y16368) 8 0 = y16368 from rfl]; exact ⟨by omega, by omega⟩), (show 0 ≤ ((up3 (up3 A16355 9 (y16364.toNatClampNeg) 100000) 8 0 y16368) 8 1).toInt ∧ ((up3 (up3 A16355 9 (y16364.toNatClampNeg) 100000) 8 0 y16368) 8 1).toInt ≤ 160 from by rw [show (up3 (up3 A16355 9 (y16364.toNatClampNeg) 100000) 8 0 y16368) 8 1 = (A16355 8 1) from rfl]; exact (IvM_s8_1 (I := I16355) (A := A16355) hV16355)), (IvM_s10_0 (I := I16355) (A := A16355) hV16355), (IvM_s10_1 (I := I16355) (A := A16355) hV16355), (IvM_s17_0 (I := I16355) (A := A16355) hV16355), (IvM_s17_164 (I := I16355) (A := A16355) hV16355), (IvM_lv (I := I16355) (A := A16355) hV16355), (IvM_sd (I := I16355) (A := A16355) hV16355), (IvM_nq (I := I16355) (A := A16355) hV16355), (IvM_hr (I := I16355) (A := A16355) hV16355), (IvM_hh (I := I16355) (A := A16355) hV16355), trivial⟩ (show L16355 = L from (hL16355.trans hL15258)) (by first | (rw [show ((upd I16355 11 y16372) 4) = (I16355 4) from rfl] <;> omega) | omega) (by first | (rw [show ((upd I16355 11 y16372) 6) = (I16355 6) from rfl] <;> omega) | omega) (by first | (rw [show ((upd I16355 11 y16372) 8) = (I15258 8) from (hI16355 8 rfl)] <;> omega) | omega) (by first | (rw [show ((upd I16355 11 y16372) 4) = (I16355 4) from rfl] <;> omega) | omega) (by omega) hF)
                        replace hF := FE.neg hF c16367
                        exfalso; omega
                      · skip
                        replace hF := FE.neg hF c16366
                        have f16373 := IvM_f4 hIv
                        have f16374 := IvM_f6 hIv
                        have f16375 := IvM_f8 hIv
                        exact g_vret hk hR ⟨I16355, (up3 A16355 9 (y16364.toNatClampNeg) 100000), L16355, (show Md [4, 6, 7, 8, 9, 11, 12, 13] I I16355 from (Md.tr (Md.tr (Md.up Md.rf rfl) hI15258 rfl) hI16355 rfl)), (show Md [8, 9] A (up3 A16355 9 (y16364.toNatClampNeg) 100000) from (Md.up3 (Md.tr (Md.tr Md.rf hA15258 rfl) hA16355 rfl) rfl)), ⟨(IvM_f1 (I := I16355) (A := A16355) hV16355), (IvM_f2 (I := I16355) (A := A16355) hV16355), (IvM_f3 (I := I16355) (A := A16355) hV16355), (IvM_f4 (I := I16355) (A := A16355) hV16355), (IvM_f6 (I := I16355) (A := A16355) hV16355), (IvM_f8 (I := I16355) (A := A16355) hV16355), (IvM_f15 (I := I16355) (A := A16355) hV16355), (IvM_f16 (I := I16355) (A := A16355) hV16355), (IvM_f17 (I := I16355) (A := A16355) hV16355), (IvM_f18 (I := I16355) (A := A16355) hV16355), (IvM_f22 (I := I16355) (A := A16355) hV16355), (IvM_f23 (I := I16355) (A := A16355) hV16355), (IvM_f24 (I := I16355) (A := A16355) hV16355), (IvM_a11 (I := I16355) (A := A16355) hV16355), (IvM_a26 (I := I16355) (A := A16355) hV16355), (IvM_s8_0 (I := I16355) (A := A16355) hV16355), (IvM_s8_1 (I := I16355) (A := A16355) hV16355), (IvM_s10_0 (I := I16355) (A := A16355) hV16355), (IvM_s10_1 (I := I16355) (A := A16355) hV16355), (IvM_s17_0 (I := I16355) (A := A16355) hV16355), (IvM_s17_164 (I := I16355) (A := A16355) hV16355), (IvM_lv (I := I16355) (A := A16355) hV16355), (IvM_sd (I := I16355) (A := A16355) hV16355), (IvM_nq (I := I16355) (A := A16355) hV16355), (IvM_hr (I := I16355) (A := A16355) hV16355), (IvM_hh (I := I16355) (A := A16355) hV16355), trivial⟩, (by omega), (by omega), (by rw [show (I16355 8) = (I15258 8) from (hI16355 8 rfl)] <;> omega), (show L16355 = L from (hL16355.trans hL15258)), hF, rfl, rfl⟩ dX12_tellSeries_107
                    replace hF := FE.neg hF c16363
                    exfalso; omega
                  replace hF := FE.neg hF c16362
                  exfalso; omega
              · skip
                replace hF := FE.neg hF c16327
                have f16376 := IvM_f4 hIv
                have f16377 := IvM_f6 hIv
                have f16378 := IvM_f8 hIv
                exact g_vret hk hR ⟨I15258, A15258, L15258, (show Md [4, 6, 7, 8, 9, 11, 12, 13] I I15258 from (Md.tr (Md.up Md.rf rfl) hI15258 rfl)), (show Md [8, 9] A A15258 from (Md.tr Md.rf hA15258 rfl)), hV15258, (by omega), (by omega), (by omega), (show L15258 = L from hL15258), hF, rfl, rfl⟩ dX12_tellSeries_48
            · skip
              replace hF := FE.neg hF c16326
              refine g_aload_n hk dX12_tellSeries_36 rfl ?_
              refine g_iconst (v := 2) hk dX12_tellSeries_37 (by decide) ?_
              have k16379 : (2 : Int32).toInt = 2 := rfl
              refine g_callV (n := 1) hk (j128_X12_fail l D zt r g I15258 A15258 L15258 2 hV15258 (by decide) (by decide)) (SP.same _) (fun _ h => h) (gi_V (List.mem_cons_of_mem _ (List.mem_append_left _ (List.mem_of_getElem? (i := 22) rfl))) (List.mem_cons_of_mem _ (List.mem_append_left _ (List.mem_of_getElem? (i := 23) rfl))) (List.mem_cons_of_mem _ (List.mem_append_left _ (List.mem_of_getElem? (i := 24) rfl))) (List.mem_cons_of_mem _ (List.mem_append_left _ (List.mem_of_getElem? (i := 4) rfl))) (gi_sub (fun w h => (List.mem_cons_of_mem _ (List.mem_append_right _ (List.mem_append_right _ (List.mem_append_right _ (List.mem_append_right _ (List.mem_append_right _ (List.mem_append_right _ (List.mem_append_right _ (List.mem_append_left _ h)))))))))) zg_j128_X12_fail)) rfl rfl rfl (by decide +kernel) ⟨Nat.le_of_ble_eq_true rfl, Nat.le_of_ble_eq_true rfl⟩ 0 rfl rfl rfl rfl (Nat.le_of_ble_eq_true rfl) ⟨Nat.le_of_ble_eq_true rfl, Nat.le_of_ble_eq_true rfl⟩ dX12_tellSeries_38 (fun v ty' w' hp hk' => ?_)
              obtain ⟨I16381, A16381, L16381, hI16381, hA16381, hV16381, r16382, r16383, r16384, hL16381, hC, rfl, rfl⟩ := hp
              replace hF := FE.bdM hF hC
              have f16385 := IvM_f6 hV16381
              rw [show (I16381 8) = (I15258 8) from (hI16381 8 rfl)] at r16383
              show GW κ 2 0 0 (wM r g I16381 A16381 L16381) 41 [(0, .ref (r 0))] []
              refine g_aload_n hk dX12_tellSeries_41 rfl ?_
              refine gM_i6 (v := (I16381 6)) hk hin12 (List.mem_cons_of_mem _ (List.mem_append_left _ (List.mem_of_getElem? (i := 11) rfl))) dX12_tellSeries_42 rfl ?_
              refine g_if_le (tgt := 49) (a := (I16381 6).toInt) hk dX12_tellSeries_45 (by decide) rfl (fun c16386 => ?_) (fun c16386 => ?_)
              · skip
                replace hF := FE.pos hF c16386
                refine g_aload_n hk dX12_tellSeries_49 rfl ?_
                refine g_bipush (v := 26) hk dX12_tellSeries_50 (by decide) ?_
                refine g_callV (n := 1) hk (j125_X12_is l D zt r g I16381 A16381 L16381 26 hV16381) (SP.same _) (fun _ h => h) (gi_V (List.mem_cons_of_mem _ (List.mem_append_left _ (List.mem_of_getElem? (i := 5) rfl))) (List.mem_cons_of_mem _ (List.mem_append_left _ (List.mem_of_getElem? (i := 6) rfl))) (List.mem_cons_of_mem _ (List.mem_append_left _ (List.mem_of_getElem? (i := 7) rfl))) (List.mem_cons_of_mem _ (List.mem_append_left _ (List.mem_of_getElem? (i := 4) rfl))) (gi_sub (fun w h => (List.mem_cons_of_mem _ (List.mem_append_right _ (List.mem_append_right _ (List.mem_append_right _ (List.mem_append_left _ h)))))) zg_j125_X12_is)) rfl rfl rfl (by decide +kernel) ⟨Nat.le_of_ble_eq_true rfl, Nat.le_of_ble_eq_true rfl⟩ 0 rfl rfl rfl rfl (Nat.le_of_ble_eq_true rfl) ⟨Nat.le_of_ble_eq_true rfl, Nat.le_of_ble_eq_true rfl⟩ dX12_tellSeries_52 (fun v ty' w' hp hk' => ?_)
                rcases hp with ⟨c16387, hC, rfl, rfl⟩ | ⟨c16389, hC, rfl, rfl⟩
                · skip
                  replace hF := FE.pos hF hC
                  rw [show (A16381 2 (I16381 4).toNatClampNeg) = (A 2 (I15258 4).toNatClampNeg) from (by rw [show I16381 4 = (I15258 4) from (hI16381 4 rfl)]; exact ((congrFun (hA16381 2 rfl) _).trans (congrFun (hA15258 2 rfl) _)))] at c16387
                  show GW κ 2 0 0 (wM r g I16381 A16381 L16381) 55 [(0, .ref (r 0))] [.int 0]
                  refine g_istore_n (lv' := [(1, .int 0), (0, .ref (r 0))]) hk dX12_tellSeries_55 (by decide) rfl ?_
                  refine g_iload_n hk dX12_tellSeries_56 rfl ?_
                  refine g_if_eq (tgt := 64) (a := 0) hk dX12_tellSeries_57 (by decide) rfl (fun _ => ?_) (fun z9 => absurd (show (0 : Int) = (0 : Int) from by decide) z9)
                  refine g_aload_n hk dX12_tellSeries_64 rfl ?_
                  refine gM_r0_27 hk hin12 (List.mem_cons_of_mem _ (List.mem_append_left _ (List.mem_of_getElem? (i := 14) rfl))) dX12_tellSeries_65 ?_
                  refine g_sipush (v := 160) hk dX12_tellSeries_68 (by decide) ?_
                  refine g_aload_n hk dX12_tellSeries_71 rfl ?_
                  refine gM_i16 (v := (I 16)) hk hin12 (List.mem_cons_of_mem _ (List.mem_append_left _ (List.mem_of_getElem? (i := 13) rfl))) dX12_tellSeries_72 ((hI16381 16 rfl).trans (hI15258 16 rfl)) ?_
                  by_cases c16391 : (I 16).toInt = 0
                  · have ec16391 : (I 16) = 0 := Int32.toInt_inj.mp c16391
                    replace hF := FE.pos hF c16391
                    rw [ec16391]
                    show GW κ 2 0 0 (wM r g I16381 A16381 L16381) 75 [(1, .int 0), (0, .ref (r 0))] [.int 0, .int 160, .ref (r 10)]
                    refine g_imul hk dX12_tellSeries_75 ?_
                    refine g_norm (v := 0) (by decide) ?_
                    refine g_aload_n hk dX12_tellSeries_76 rfl ?_
                    refine gM_r0_26 hk hin12 (List.mem_cons_of_mem _ (List.mem_append_left _ (List.mem_of_getElem? (i := 12) rfl))) dX12_tellSeries_77 ?_
                    refine g_aload_n hk dX12_tellSeries_80 rfl ?_
                    refine gM_i16 (v := (I 16)) hk hin12 (List.mem_cons_of_mem _ (List.mem_append_left _ (List.mem_of_getElem? (i := 13) rfl))) dX12_tellSeries_81 ((hI16381 16 rfl).trans (hI15258 16 rfl)) ?_
                    by_cases c16392 : (I 16).toInt = 0
                    · have ec16392 : (I 16) = 0 := Int32.toInt_inj.mp c16392
                      replace hF := FE.pos hF c16392
                      rw [ec16392]
                      show GW κ 2 0 0 (wM r g I16381 A16381 L16381) 84 [(1, .int 0), (0, .ref (r 0))] [.int 0, .ref (r 9), .int 0, .ref (r 10)]
                      refine lM_8 (v := (A15258 8 0)) hk (vp_in_iff.mpr ⟨by decide, by decide⟩) (congrFun (hA16381 8 rfl) _) dX12_tellSeries_84 ?_
                      refine g_iadd hk dX12_tellSeries_85 ?_
                      refine g_topi (fun y16393 ey16393 => ?_)
                      replace hF := FE.lt hF ey16393
                      have hy16393 : y16393.toInt = 0 + (A15258 8 0).toInt := i32_add ey16393 rfl rfl (by omega) (by omega)
                      refine g_iload_n hk dX12_tellSeries_86 rfl ?_
                      refine g_if_eq (tgt := 95) (a := 0) hk dX12_tellSeries_87 (by decide) rfl (fun _ => ?_) (fun z9 => absurd (show (0 : Int) = (0 : Int) from by decide) z9)
                      refine g_aload_n hk dX12_tellSeries_95 rfl ?_
                      refine g_callV (n := 0) hk (j132_X12_readingTold l D zt r g I16381 A16381 L16381  hV16381) (SP.same _) (fun _ h => h) (gi_V (List.mem_cons_of_mem _ (List.mem_append_left _ (List.mem_of_getElem? (i := 15) rfl))) (List.mem_cons_of_mem _ (List.mem_append_left _ (List.mem_of_getElem? (i := 16) rfl))) (List.mem_cons_of_mem _ (List.mem_append_left _ (List.mem_of_getElem? (i := 17) rfl))) (List.mem_cons_of_mem _ (List.mem_append_left _ (List.mem_of_getElem? (i := 4) rfl))) (gi_sub (fun w h => (List.mem_cons_of_mem _ (List.mem_append_right _ (List.mem_append_right _ (List.mem_append_right _ (List.mem_append_right _ (List.mem_append_right _ (List.mem_append_left _ h)))))))) zg_j132_X12_readingTold)) rfl rfl rfl (by decide +kernel) ⟨Nat.le_of_ble_eq_true rfl, Nat.le_of_ble_eq_true rfl⟩ 0 rfl rfl rfl rfl (Nat.le_of_ble_eq_true rfl) ⟨Nat.le_of_ble_eq_true rfl, Nat.le_of_ble_eq_true rfl⟩ dX12_tellSeries_96 (fun v ty' w' hp hk' => ?_)
                      obtain ⟨I16395, A16395, L16395, hI16395, hA16395, hV16395, y16394, r16396, r16397, r16398, r16399, hL16395, hC, rfl, rfl⟩ := hp
                      replace hF := FE.bdM hF hC
                      have f16400 := IvM_f4 hV16395
                      rw [show (I16381 4) = (I15258 4) from (hI16381 4 rfl)] at r16396
                      have f16401 := IvM_f6 hV16395
                      have f16402 := IvM_f8 hV16395
                      rw [show (I16381 8) = (I15258 8) from (hI16381 8 rfl)] at r16398
                      rw [show (I16381 4) = (I15258 4) from (hI16381 4 rfl)] at r16399
                      show GW κ 2 0 0 (wM r g I16395 A16395 L16395) 99 [(1, .int 0), (0, .ref (r 0))] [.int y16394, .int y16393, .ref (r 10)]
                      refine sM_9 (j := y16393.toNatClampNeg) hk (vp_in_iff.mpr ⟨by omega, by omega⟩) rfl dX12_tellSeries_99 ?_
                      refine g_aload_n hk dX12_tellSeries_100 rfl ?_
                      refine gM_i6 (v := (I16395 6)) hk hin12 (List.mem_cons_of_mem _ (List.mem_append_left _ (List.mem_of_getElem? (i := 11) rfl))) dX12_tellSeries_101 rfl ?_
                      refine g_if_le (tgt := 108) (a := (I16395 6).toInt) hk dX12_tellSeries_104 (by decide) rfl (fun c16403 => ?_) (fun c16403 => ?_)
                      · skip
                        replace hF := FE.pos hF c16403
                        refine g_aload_n hk dX12_tellSeries_108 rfl ?_
                        refine gM_r0_26 hk hin12 (List.mem_cons_of_mem _ (List.mem_append_left _ (List.mem_of_getElem? (i := 12) rfl))) dX12_tellSeries_109 ?_
                        refine g_aload_n hk dX12_tellSeries_112 rfl ?_
                        refine gM_i16 (v := (I 16)) hk hin12 (List.mem_cons_of_mem _ (List.mem_append_left _ (List.mem_of_getElem? (i := 13) rfl))) dX12_tellSeries_113 ((hI16395 16 rfl).trans ((hI16381 16 rfl).trans (hI15258 16 rfl))) ?_
                        by_cases c16404 : (I 16).toInt = 0
                        · have ec16404 : (I 16) = 0 := Int32.toInt_inj.mp c16404
                          replace hF := FE.pos hF c16404
                          rw [ec16404]
                          show GW κ 2 0 0 (wM r g I16395 (up3 A16395 9 (y16393.toNatClampNeg) y16394) L16395) 116 [(1, .int 0), (0, .ref (r 0))] [.int 0, .ref (r 9)]
                          refine g_dup2 hk dX12_tellSeries_116 rfl rfl ?_
                          refine lM_8 (v := (A15258 8 0)) hk (vp_in_iff.mpr ⟨by decide, by decide⟩) ((congrFun (hA16395 8 rfl) _).trans (congrFun (hA16381 8 rfl) _)) dX12_tellSeries_117 ?_
                          refine g_iconst (v := 1) hk dX12_tellSeries_118 (by decide) ?_
                          refine g_iadd hk dX12_tellSeries_119 ?_
                          refine g_topi (fun y16405 ey16405 => ?_)
                          replace hF := FE.lt hF ey16405
                          have hy16405 : y16405.toInt = (A15258 8 0).toInt + 1 := i32_add ey16405 rfl rfl (by omega) (by omega)
                          refine sM_8 (j := 0) hk (vp_in_iff.mpr ⟨by decide, by decide⟩) (by decide) dX12_tellSeries_120 ?_
                          have f16406 := IvM_s8_0 hV16395
                          have f16407 := IvM_s8_1 hV16395
                          refine g_aload_n hk dX12_tellSeries_121 rfl ?_
                          refine g_dup hk dX12_tellSeries_122 rfl ?_
                          refine gM_i11 (v := (I15258 11)) hk hin12 (List.mem_cons_of_mem _ (List.mem_append_left _ (List.mem_of_getElem? (i := 0) rfl))) dX12_tellSeries_123 ((hI16395 11 rfl).trans (hI16381 11 rfl)) ?_
                          refine g_iconst (v := 1) hk dX12_tellSeries_126 (by decide) ?_
                          have b16408l := Int32.le_toInt (I15258 11)
                          have b16408h := Int32.toInt_lt (I15258 11)
                          refine g_iadd hk dX12_tellSeries_127 ?_
                          refine g_topi (fun y16409 ey16409 => ?_)
                          replace hF := FE.lt hF ey16409
                          refine pM_i11 hk hin12 (List.mem_cons_of_mem _ (List.mem_append_left _ (List.mem_of_getElem? (i := 0) rfl))) dX12_tellSeries_128 ?_
                          refine g_goto (tgt := 5) hk dX12_tellSeries_131 (by decide) ?_
                          exact g_lv (List.forall_mem_cons.mpr ⟨List.mem_of_getElem? (i := 1) rfl, (fun _ h => absurd h List.not_mem_nil)⟩) (ih16295 (upd I16395 11 y16409) (up3 (up3 A16395 9 (y16393.toNatClampNeg) y16394) 8 0 y16405) L16395 (show Md [4, 6, 7, 8, 9, 11, 12, 13] (upd I 11 0) (upd I16395 11 y16409) from Md.tr hI15258 (show Md [4, 6, 7, 8, 9, 11, 12, 13] I15258 (upd I16395 11 y16409) from (Md.up (Md.tr (Md.tr Md.rf hI16381 rfl) hI16395 rfl) rfl)) rfl) (show Md [8, 9] A (up3 (up3 A16395 9 (y16393.toNatClampNeg) y16394) 8 0 y16405) from Md.tr hA15258 (show Md [8, 9] A15258 (up3 (up3 A16395 9 (y16393.toNatClampNeg) y16394) 8 0 y16405) from (Md.up3 (Md.up3 (Md.tr (Md.tr Md.rf hA16381 rfl) hA16395 rfl) rfl) rfl)) rfl) ⟨(IvM_f1 (I := I16395) (A := A16395) hV16395), (IvM_f2 (I := I16395) (A := A16395) hV16395), (IvM_f3 (I := I16395) (A := A16395) hV16395), (IvM_f4 (I := I16395) (A := A16395) hV16395), (IvM_f6 (I := I16395) (A := A16395) hV16395), (IvM_f8 (I := I16395) (A := A16395) hV16395), (IvM_f15 (I := I16395) (A := A16395) hV16395), (IvM_f16 (I := I16395) (A := A16395) hV16395), (IvM_f17 (I := I16395) (A := A16395) hV16395), (IvM_f18 (I := I16395) (A := A16395) hV16395), (IvM_f22 (I := I16395) (A := A16395) hV16395), (IvM_f23 (I := I16395) (A := A16395) hV16395), (IvM_f24 (I := I16395) (A := A16395) hV16395), (IvM_a11 (I := I16395) (A := A16395) hV16395), (IvM_a26 (I := I16395) (A := A16395) hV16395), (show 0 ≤ ((up3 (up3 A16395 9 (y16393.toNatClampNeg) y16394) 8 0 y16405) 8 0).toInt ∧ ((up3 (up3 A16395 9 (y16393.toNatClampNeg) y16394) 8 0 y16405) 8 0).toInt ≤ 160 from by rw [show (up3 (up3 A16395 9 (y16393.toNatClampNeg) y16394) 8 0 y16405) 8 0 = y16405 from rfl]; exact ⟨by omega, by omega⟩), (show 0 ≤ ((up3 (up3 A16395 9 (y16393.toNatClampNeg) y16394) 8 0 y16405) 8 1).toInt ∧ ((up3 (up3 A16395 9 (y16393.toNatClampNeg) y16394) 8 0 y16405) 8 1).toInt ≤ 160 from by rw [show (up3 (up3 A16395 9 (y16393.toNatClampNeg) y16394) 8 0 y16405) 8 1 = (A16395 8 1) from rfl]; exact (IvM_s8_1 (I := I16395) (A := A16395) hV16395)), (IvM_s10_0 (I := I16395) (A := A16395) hV16395), (IvM_s10_1 (I := I16395) (A := A16395) hV16395), (IvM_s17_0 (I := I16395) (A := A16395) hV16395), (IvM_s17_164 (I := I16395) (A := A16395) hV16395), (IvM_lv (I := I16395) (A := A16395) hV16395), (IvM_sd (I := I16395) (A := A16395) hV16395), (IvM_nq (I := I16395) (A := A16395) hV16395), (IvM_hr (I := I16395) (A := A16395) hV16395), (IvM_hh (I := I16395) (A := A16395) hV16395), trivial⟩ (show L16395 = L from ((hL16395.trans hL16381).trans hL15258)) (by first | (rw [show ((upd I16395 11 y16409) 4) = (I16395 4) from rfl] <;> omega) | omega) (by first | (rw [show ((upd I16395 11 y16409) 6) = (I16395 6) from rfl] <;> omega) | omega) (by first | (rw [show ((upd I16395 11 y16409) 8) = (I16395 8) from rfl] <;> omega) | omega) (by first | (rw [show ((upd I16395 11 y16409) 4) = (I16395 4) from rfl] <;> omega) | omega) (by omega) hF)
                        replace hF := FE.neg hF c16404
                        exfalso; omega
                      · skip
                        replace hF := FE.neg hF c16403
                        have f16410 := IvM_f4 hIv
                        have f16411 := IvM_f6 hIv
                        have f16412 := IvM_f8 hIv
                        exact g_vret hk hR ⟨I16395, (up3 A16395 9 (y16393.toNatClampNeg) y16394), L16395, (show Md [4, 6, 7, 8, 9, 11, 12, 13] I I16395 from (Md.tr (Md.tr (Md.tr (Md.up Md.rf rfl) hI15258 rfl) hI16381 rfl) hI16395 rfl)), (show Md [8, 9] A (up3 A16395 9 (y16393.toNatClampNeg) y16394) from (Md.up3 (Md.tr (Md.tr (Md.tr Md.rf hA15258 rfl) hA16381 rfl) hA16395 rfl) rfl)), ⟨(IvM_f1 (I := I16395) (A := A16395) hV16395), (IvM_f2 (I := I16395) (A := A16395) hV16395), (IvM_f3 (I := I16395) (A := A16395) hV16395), (IvM_f4 (I := I16395) (A := A16395) hV16395), (IvM_f6 (I := I16395) (A := A16395) hV16395), (IvM_f8 (I := I16395) (A := A16395) hV16395), (IvM_f15 (I := I16395) (A := A16395) hV16395), (IvM_f16 (I := I16395) (A := A16395) hV16395), (IvM_f17 (I := I16395) (A := A16395) hV16395), (IvM_f18 (I := I16395) (A := A16395) hV16395), (IvM_f22 (I := I16395) (A := A16395) hV16395), (IvM_f23 (I := I16395) (A := A16395) hV16395), (IvM_f24 (I := I16395) (A := A16395) hV16395), (IvM_a11 (I := I16395) (A := A16395) hV16395), (IvM_a26 (I := I16395) (A := A16395) hV16395), (IvM_s8_0 (I := I16395) (A := A16395) hV16395), (IvM_s8_1 (I := I16395) (A := A16395) hV16395), (IvM_s10_0 (I := I16395) (A := A16395) hV16395), (IvM_s10_1 (I := I16395) (A := A16395) hV16395), (IvM_s17_0 (I := I16395) (A := A16395) hV16395), (IvM_s17_164 (I := I16395) (A := A16395) hV16395), (IvM_lv (I := I16395) (A := A16395) hV16395), (IvM_sd (I := I16395) (A := A16395) hV16395), (IvM_nq (I := I16395) (A := A16395) hV16395), (IvM_hr (I := I16395) (A := A16395) hV16395), (IvM_hh (I := I16395) (A := A16395) hV16395), trivial⟩, (by omega), (by omega), (by omega), (show L16395 = L from (hL16395.trans (hL16381.trans hL15258))), hF, rfl, rfl⟩ dX12_tellSeries_107
                    replace hF := FE.neg hF c16392
                    exfalso; omega
                  replace hF := FE.neg hF c16391
                  exfalso; omega
                · skip
                  replace hF := FE.neg hF (fe_ne hC (by decide))
                  rw [show (A16381 2 (I16381 4).toNatClampNeg) = (A 2 (I15258 4).toNatClampNeg) from (by rw [show I16381 4 = (I15258 4) from (hI16381 4 rfl)]; exact ((congrFun (hA16381 2 rfl) _).trans (congrFun (hA15258 2 rfl) _)))] at c16389
                  show GW κ 2 0 0 (wM r g I16381 A16381 L16381) 55 [(0, .ref (r 0))] [.int 1]
                  refine g_istore_n (lv' := [(1, .int 1), (0, .ref (r 0))]) hk dX12_tellSeries_55 (by decide) rfl ?_
                  refine g_iload_n hk dX12_tellSeries_56 rfl ?_
                  refine g_if_eq (tgt := 64) (a := 1) hk dX12_tellSeries_57 (by decide) rfl (fun z9 => absurd z9 (show ¬ ((1 : Int) = (0 : Int)) from by decide)) (fun _ => ?_)
                  refine g_aload_n hk dX12_tellSeries_60 rfl ?_
                  refine g_callV (n := 0) hk (j127_X12_goesOn l D zt r g I16381 A16381 L16381  hV16381) (SP.same _) (fun _ h => h) (gi_V (List.mem_cons_of_mem _ (List.mem_append_left _ (List.mem_of_getElem? (i := 18) rfl))) (List.mem_cons_of_mem _ (List.mem_append_left _ (List.mem_of_getElem? (i := 19) rfl))) (List.mem_cons_of_mem _ (List.mem_append_left _ (List.mem_of_getElem? (i := 20) rfl))) (List.mem_cons_of_mem _ (List.mem_append_left _ (List.mem_of_getElem? (i := 4) rfl))) (gi_sub (fun w h => (List.mem_cons_of_mem _ (List.mem_append_right _ (List.mem_append_right _ (List.mem_append_right _ (List.mem_append_right _ (List.mem_append_right _ (List.mem_append_right _ (List.mem_append_left _ h))))))))) zg_j127_X12_goesOn)) rfl rfl rfl (by decide +kernel) ⟨Nat.le_of_ble_eq_true rfl, Nat.le_of_ble_eq_true rfl⟩ 0 rfl rfl rfl rfl (Nat.le_of_ble_eq_true rfl) ⟨Nat.le_of_ble_eq_true rfl, Nat.le_of_ble_eq_true rfl⟩ dX12_tellSeries_61 (fun v ty' w' hp hk' => ?_)
                  obtain ⟨I16414, A16414, L16414, hI16414, hA16414, hV16414, r16415, r16416, r16417, r16418, hL16414, hC, rfl, rfl⟩ := hp
                  replace hF := FE.bdM hF hC
                  have f16419 := IvM_f4 hV16414
                  rw [show (I16381 4) = (I15258 4) from (hI16381 4 rfl)] at r16415
                  have f16420 := IvM_f6 hV16414
                  rw [show (I16381 8) = (I15258 8) from (hI16381 8 rfl), show (I16414 8) = (I15258 8) from ((hI16414 8 rfl).trans (hI16381 8 rfl))] at r16417
                  rw [show (I16381 4) = (I15258 4) from (hI16381 4 rfl)] at r16418
                  show GW κ 2 0 0 (wM r g I16414 A16414 L16414) 64 [(1, .int 1), (0, .ref (r 0))] []
                  refine g_aload_n hk dX12_tellSeries_64 rfl ?_
                  refine gM_r0_27 hk hin12 (List.mem_cons_of_mem _ (List.mem_append_left _ (List.mem_of_getElem? (i := 14) rfl))) dX12_tellSeries_65 ?_
                  refine g_sipush (v := 160) hk dX12_tellSeries_68 (by decide) ?_
                  refine g_aload_n hk dX12_tellSeries_71 rfl ?_
                  refine gM_i16 (v := (I 16)) hk hin12 (List.mem_cons_of_mem _ (List.mem_append_left _ (List.mem_of_getElem? (i := 13) rfl))) dX12_tellSeries_72 ((hI16414 16 rfl).trans ((hI16381 16 rfl).trans (hI15258 16 rfl))) ?_
                  by_cases c16421 : (I 16).toInt = 0
                  · have ec16421 : (I 16) = 0 := Int32.toInt_inj.mp c16421
                    replace hF := FE.pos hF c16421
                    rw [ec16421]
                    show GW κ 2 0 0 (wM r g I16414 A16414 L16414) 75 [(1, .int 1), (0, .ref (r 0))] [.int 0, .int 160, .ref (r 10)]
                    refine g_imul hk dX12_tellSeries_75 ?_
                    refine g_norm (v := 0) (by decide) ?_
                    refine g_aload_n hk dX12_tellSeries_76 rfl ?_
                    refine gM_r0_26 hk hin12 (List.mem_cons_of_mem _ (List.mem_append_left _ (List.mem_of_getElem? (i := 12) rfl))) dX12_tellSeries_77 ?_
                    refine g_aload_n hk dX12_tellSeries_80 rfl ?_
                    refine gM_i16 (v := (I 16)) hk hin12 (List.mem_cons_of_mem _ (List.mem_append_left _ (List.mem_of_getElem? (i := 13) rfl))) dX12_tellSeries_81 ((hI16414 16 rfl).trans ((hI16381 16 rfl).trans (hI15258 16 rfl))) ?_
                    by_cases c16422 : (I 16).toInt = 0
                    · have ec16422 : (I 16) = 0 := Int32.toInt_inj.mp c16422
                      replace hF := FE.pos hF c16422
                      rw [ec16422]
                      show GW κ 2 0 0 (wM r g I16414 A16414 L16414) 84 [(1, .int 1), (0, .ref (r 0))] [.int 0, .ref (r 9), .int 0, .ref (r 10)]
                      refine lM_8 (v := (A15258 8 0)) hk (vp_in_iff.mpr ⟨by decide, by decide⟩) ((congrFun (hA16414 8 rfl) _).trans (congrFun (hA16381 8 rfl) _)) dX12_tellSeries_84 ?_
                      refine g_iadd hk dX12_tellSeries_85 ?_
                      refine g_topi (fun y16423 ey16423 => ?_)
                      replace hF := FE.lt hF ey16423
                      have hy16423 : y16423.toInt = 0 + (A15258 8 0).toInt := i32_add ey16423 rfl rfl (by omega) (by omega)
                      refine g_iload_n hk dX12_tellSeries_86 rfl ?_
                      refine g_if_eq (tgt := 95) (a := 1) hk dX12_tellSeries_87 (by decide) rfl (fun z9 => absurd z9 (show ¬ ((1 : Int) = (0 : Int)) from by decide)) (fun _ => ?_)
                      refine g_ldc (v := 100000) hk (List.mem_cons_of_mem _ (List.mem_append_left _ (List.mem_of_getElem? (i := 21) rfl))) dX12_tellSeries_90 ?_
                      refine g_goto (tgt := 99) hk dX12_tellSeries_92 (by decide) ?_
                      have k16424 : (100000 : Int32).toInt = 100000 := rfl
                      refine sM_9 (j := y16423.toNatClampNeg) hk (vp_in_iff.mpr ⟨by omega, by omega⟩) rfl dX12_tellSeries_99 ?_
                      refine g_aload_n hk dX12_tellSeries_100 rfl ?_
                      refine gM_i6 (v := (I16414 6)) hk hin12 (List.mem_cons_of_mem _ (List.mem_append_left _ (List.mem_of_getElem? (i := 11) rfl))) dX12_tellSeries_101 rfl ?_
                      refine g_if_le (tgt := 108) (a := (I16414 6).toInt) hk dX12_tellSeries_104 (by decide) rfl (fun c16425 => ?_) (fun c16425 => ?_)
                      · skip
                        replace hF := FE.pos hF c16425
                        refine g_aload_n hk dX12_tellSeries_108 rfl ?_
                        refine gM_r0_26 hk hin12 (List.mem_cons_of_mem _ (List.mem_append_left _ (List.mem_of_getElem? (i := 12) rfl))) dX12_tellSeries_109 ?_
                        refine g_aload_n hk dX12_tellSeries_112 rfl ?_
                        refine gM_i16 (v := (I 16)) hk hin12 (List.mem_cons_of_mem _ (List.mem_append_left _ (List.mem_of_getElem? (i := 13) rfl))) dX12_tellSeries_113 ((hI16414 16 rfl).trans ((hI16381 16 rfl).trans (hI15258 16 rfl))) ?_
                        by_cases c16426 : (I 16).toInt = 0
                        · have ec16426 : (I 16) = 0 := Int32.toInt_inj.mp c16426
                          replace hF := FE.pos hF c16426
                          rw [ec16426]
                          show GW κ 2 0 0 (wM r g I16414 (up3 A16414 9 (y16423.toNatClampNeg) 100000) L16414) 116 [(1, .int 1), (0, .ref (r 0))] [.int 0, .ref (r 9)]
                          refine g_dup2 hk dX12_tellSeries_116 rfl rfl ?_
                          refine lM_8 (v := (A15258 8 0)) hk (vp_in_iff.mpr ⟨by decide, by decide⟩) ((congrFun (hA16414 8 rfl) _).trans (congrFun (hA16381 8 rfl) _)) dX12_tellSeries_117 ?_
                          refine g_iconst (v := 1) hk dX12_tellSeries_118 (by decide) ?_
                          refine g_iadd hk dX12_tellSeries_119 ?_
                          refine g_topi (fun y16427 ey16427 => ?_)
                          replace hF := FE.lt hF ey16427
                          have hy16427 : y16427.toInt = (A15258 8 0).toInt + 1 := i32_add ey16427 rfl rfl (by omega) (by omega)
                          refine sM_8 (j := 0) hk (vp_in_iff.mpr ⟨by decide, by decide⟩) (by decide) dX12_tellSeries_120 ?_
                          have f16428 := IvM_s8_0 hV16414
                          have f16429 := IvM_s8_1 hV16414
                          refine g_aload_n hk dX12_tellSeries_121 rfl ?_
                          refine g_dup hk dX12_tellSeries_122 rfl ?_
                          refine gM_i11 (v := (I15258 11)) hk hin12 (List.mem_cons_of_mem _ (List.mem_append_left _ (List.mem_of_getElem? (i := 0) rfl))) dX12_tellSeries_123 ((hI16414 11 rfl).trans (hI16381 11 rfl)) ?_
                          refine g_iconst (v := 1) hk dX12_tellSeries_126 (by decide) ?_
                          have b16430l := Int32.le_toInt (I15258 11)
                          have b16430h := Int32.toInt_lt (I15258 11)
                          refine g_iadd hk dX12_tellSeries_127 ?_
                          refine g_topi (fun y16431 ey16431 => ?_)
                          replace hF := FE.lt hF ey16431
                          refine pM_i11 hk hin12 (List.mem_cons_of_mem _ (List.mem_append_left _ (List.mem_of_getElem? (i := 0) rfl))) dX12_tellSeries_128 ?_
                          refine g_goto (tgt := 5) hk dX12_tellSeries_131 (by decide) ?_
                          exact g_lv (List.forall_mem_cons.mpr ⟨List.mem_of_getElem? (i := 1) rfl, (fun _ h => absurd h List.not_mem_nil)⟩) (ih16295 (upd I16414 11 y16431) (up3 (up3 A16414 9 (y16423.toNatClampNeg) 100000) 8 0 y16427) L16414 (show Md [4, 6, 7, 8, 9, 11, 12, 13] (upd I 11 0) (upd I16414 11 y16431) from Md.tr hI15258 (show Md [4, 6, 7, 8, 9, 11, 12, 13] I15258 (upd I16414 11 y16431) from (Md.up (Md.tr (Md.tr Md.rf hI16381 rfl) hI16414 rfl) rfl)) rfl) (show Md [8, 9] A (up3 (up3 A16414 9 (y16423.toNatClampNeg) 100000) 8 0 y16427) from Md.tr hA15258 (show Md [8, 9] A15258 (up3 (up3 A16414 9 (y16423.toNatClampNeg) 100000) 8 0 y16427) from (Md.up3 (Md.up3 (Md.tr (Md.tr Md.rf hA16381 rfl) hA16414 rfl) rfl) rfl)) rfl) ⟨(IvM_f1 (I := I16414) (A := A16414) hV16414), (IvM_f2 (I := I16414) (A := A16414) hV16414), (IvM_f3 (I := I16414) (A := A16414) hV16414), (IvM_f4 (I := I16414) (A := A16414) hV16414), (IvM_f6 (I := I16414) (A := A16414) hV16414), (IvM_f8 (I := I16414) (A := A16414) hV16414), (IvM_f15 (I := I16414) (A := A16414) hV16414), (IvM_f16 (I := I16414) (A := A16414) hV16414), (IvM_f17 (I := I16414) (A := A16414) hV16414), (IvM_f18 (I := I16414) (A := A16414) hV16414), (IvM_f22 (I := I16414) (A := A16414) hV16414), (IvM_f23 (I := I16414) (A := A16414) hV16414), (IvM_f24 (I := I16414) (A := A16414) hV16414), (IvM_a11 (I := I16414) (A := A16414) hV16414), (IvM_a26 (I := I16414) (A := A16414) hV16414), (show 0 ≤ ((up3 (up3 A16414 9 (y16423.toNatClampNeg) 100000) 8 0 y16427) 8 0).toInt ∧ ((up3 (up3 A16414 9 (y16423.toNatClampNeg) 100000) 8 0 y16427) 8 0).toInt ≤ 160 from by rw [show (up3 (up3 A16414 9 (y16423.toNatClampNeg) 100000) 8 0 y16427) 8 0 = y16427 from rfl]; exact ⟨by omega, by omega⟩), (show 0 ≤ ((up3 (up3 A16414 9 (y16423.toNatClampNeg) 100000) 8 0 y16427) 8 1).toInt ∧ ((up3 (up3 A16414 9 (y16423.toNatClampNeg) 100000) 8 0 y16427) 8 1).toInt ≤ 160 from by rw [show (up3 (up3 A16414 9 (y16423.toNatClampNeg) 100000) 8 0 y16427) 8 1 = (A16414 8 1) from rfl]; exact (IvM_s8_1 (I := I16414) (A := A16414) hV16414)), (IvM_s10_0 (I := I16414) (A := A16414) hV16414), (IvM_s10_1 (I := I16414) (A := A16414) hV16414), (IvM_s17_0 (I := I16414) (A := A16414) hV16414), (IvM_s17_164 (I := I16414) (A := A16414) hV16414), (IvM_lv (I := I16414) (A := A16414) hV16414), (IvM_sd (I := I16414) (A := A16414) hV16414), (IvM_nq (I := I16414) (A := A16414) hV16414), (IvM_hr (I := I16414) (A := A16414) hV16414), (IvM_hh (I := I16414) (A := A16414) hV16414), trivial⟩ (show L16414 = L from ((hL16414.trans hL16381).trans hL15258)) (by first | (rw [show ((upd I16414 11 y16431) 4) = (I16414 4) from rfl] <;> omega) | omega) (by first | (rw [show ((upd I16414 11 y16431) 6) = (I16414 6) from rfl] <;> omega) | omega) (by first | (rw [show ((upd I16414 11 y16431) 8) = (I15258 8) from ((hI16414 8 rfl).trans (hI16381 8 rfl))] <;> omega) | omega) (by first | (rw [show ((upd I16414 11 y16431) 4) = (I16414 4) from rfl] <;> omega) | omega) (by omega) hF)
                        replace hF := FE.neg hF c16426
                        exfalso; omega
                      · skip
                        replace hF := FE.neg hF c16425
                        have f16432 := IvM_f4 hIv
                        have f16433 := IvM_f6 hIv
                        have f16434 := IvM_f8 hIv
                        exact g_vret hk hR ⟨I16414, (up3 A16414 9 (y16423.toNatClampNeg) 100000), L16414, (show Md [4, 6, 7, 8, 9, 11, 12, 13] I I16414 from (Md.tr (Md.tr (Md.tr (Md.up Md.rf rfl) hI15258 rfl) hI16381 rfl) hI16414 rfl)), (show Md [8, 9] A (up3 A16414 9 (y16423.toNatClampNeg) 100000) from (Md.up3 (Md.tr (Md.tr (Md.tr Md.rf hA15258 rfl) hA16381 rfl) hA16414 rfl) rfl)), ⟨(IvM_f1 (I := I16414) (A := A16414) hV16414), (IvM_f2 (I := I16414) (A := A16414) hV16414), (IvM_f3 (I := I16414) (A := A16414) hV16414), (IvM_f4 (I := I16414) (A := A16414) hV16414), (IvM_f6 (I := I16414) (A := A16414) hV16414), (IvM_f8 (I := I16414) (A := A16414) hV16414), (IvM_f15 (I := I16414) (A := A16414) hV16414), (IvM_f16 (I := I16414) (A := A16414) hV16414), (IvM_f17 (I := I16414) (A := A16414) hV16414), (IvM_f18 (I := I16414) (A := A16414) hV16414), (IvM_f22 (I := I16414) (A := A16414) hV16414), (IvM_f23 (I := I16414) (A := A16414) hV16414), (IvM_f24 (I := I16414) (A := A16414) hV16414), (IvM_a11 (I := I16414) (A := A16414) hV16414), (IvM_a26 (I := I16414) (A := A16414) hV16414), (IvM_s8_0 (I := I16414) (A := A16414) hV16414), (IvM_s8_1 (I := I16414) (A := A16414) hV16414), (IvM_s10_0 (I := I16414) (A := A16414) hV16414), (IvM_s10_1 (I := I16414) (A := A16414) hV16414), (IvM_s17_0 (I := I16414) (A := A16414) hV16414), (IvM_s17_164 (I := I16414) (A := A16414) hV16414), (IvM_lv (I := I16414) (A := A16414) hV16414), (IvM_sd (I := I16414) (A := A16414) hV16414), (IvM_nq (I := I16414) (A := A16414) hV16414), (IvM_hr (I := I16414) (A := A16414) hV16414), (IvM_hh (I := I16414) (A := A16414) hV16414), trivial⟩, (by omega), (by omega), (by rw [show (I16414 8) = (I15258 8) from ((hI16414 8 rfl).trans (hI16381 8 rfl))] <;> omega), (show L16414 = L from (hL16414.trans (hL16381.trans hL15258))), hF, rfl, rfl⟩ dX12_tellSeries_107
                    replace hF := FE.neg hF c16422
                    exfalso; omega
                  replace hF := FE.neg hF c16421
                  exfalso; omega
              · skip
                replace hF := FE.neg hF c16386
                have f16435 := IvM_f4 hIv
                have f16436 := IvM_f6 hIv
                have f16437 := IvM_f8 hIv
                exact g_vret hk hR ⟨I16381, A16381, L16381, (show Md [4, 6, 7, 8, 9, 11, 12, 13] I I16381 from (Md.tr (Md.tr (Md.up Md.rf rfl) hI15258 rfl) hI16381 rfl)), (show Md [8, 9] A A16381 from (Md.tr (Md.tr Md.rf hA15258 rfl) hA16381 rfl)), hV16381, (by rw [show (I16381 4) = (I15258 4) from (hI16381 4 rfl)] <;> omega), (by omega), (by rw [show (I16381 8) = (I15258 8) from (hI16381 8 rfl)] <;> omega), (show L16381 = L from (hL16381.trans hL15258)), hF, rfl, rfl⟩ dX12_tellSeries_48
          replace hF := FE.neg hF c16324
          by_cases c16438 : (I 16).toInt = 1
          · have ec16438 : (I 16) = 1 := Int32.toInt_inj.mp c16438
            replace hF := FE.pos hF c16438
            rw [ec16438]
            show GW κ 2 0 0 (wM r g I15258 A15258 L15258) 29 [(0, .ref (r 0))] [.int 1, .ref (r 9)]
            refine lM_8 (v := (A15258 8 1)) hk (vp_in_iff.mpr ⟨by decide, by decide⟩) rfl dX12_tellSeries_29 ?_
            have f16439 := IvM_s8_1 hV15258
            refine g_sipush (v := 160) hk dX12_tellSeries_30 (by decide) ?_
            refine g_icmp_ne (tgt := 41) (a := (A15258 8 1).toInt) (b := 160) hk dX12_tellSeries_33 (by decide) rfl rfl (fun c16440 => ?_) (fun c16440 => ?_)
            · skip
              replace hF := FE.pos hF c16440
              refine g_aload_n hk dX12_tellSeries_41 rfl ?_
              refine gM_i6 (v := (I15258 6)) hk hin12 (List.mem_cons_of_mem _ (List.mem_append_left _ (List.mem_of_getElem? (i := 11) rfl))) dX12_tellSeries_42 rfl ?_
              refine g_if_le (tgt := 49) (a := (I15258 6).toInt) hk dX12_tellSeries_45 (by decide) rfl (fun c16441 => ?_) (fun c16441 => ?_)
              · skip
                replace hF := FE.pos hF c16441
                refine g_aload_n hk dX12_tellSeries_49 rfl ?_
                refine g_bipush (v := 26) hk dX12_tellSeries_50 (by decide) ?_
                refine g_callV (n := 1) hk (j125_X12_is l D zt r g I15258 A15258 L15258 26 hV15258) (SP.same _) (fun _ h => h) (gi_V (List.mem_cons_of_mem _ (List.mem_append_left _ (List.mem_of_getElem? (i := 5) rfl))) (List.mem_cons_of_mem _ (List.mem_append_left _ (List.mem_of_getElem? (i := 6) rfl))) (List.mem_cons_of_mem _ (List.mem_append_left _ (List.mem_of_getElem? (i := 7) rfl))) (List.mem_cons_of_mem _ (List.mem_append_left _ (List.mem_of_getElem? (i := 4) rfl))) (gi_sub (fun w h => (List.mem_cons_of_mem _ (List.mem_append_right _ (List.mem_append_right _ (List.mem_append_right _ (List.mem_append_left _ h)))))) zg_j125_X12_is)) rfl rfl rfl (by decide +kernel) ⟨Nat.le_of_ble_eq_true rfl, Nat.le_of_ble_eq_true rfl⟩ 0 rfl rfl rfl rfl (Nat.le_of_ble_eq_true rfl) ⟨Nat.le_of_ble_eq_true rfl, Nat.le_of_ble_eq_true rfl⟩ dX12_tellSeries_52 (fun v ty' w' hp hk' => ?_)
                rcases hp with ⟨c16442, hC, rfl, rfl⟩ | ⟨c16444, hC, rfl, rfl⟩
                · skip
                  replace hF := FE.pos hF hC
                  rw [show (A15258 2 (I15258 4).toNatClampNeg) = (A 2 (I15258 4).toNatClampNeg) from (congrFun (hA15258 2 rfl) _)] at c16442
                  show GW κ 2 0 0 (wM r g I15258 A15258 L15258) 55 [(0, .ref (r 0))] [.int 0]
                  refine g_istore_n (lv' := [(1, .int 0), (0, .ref (r 0))]) hk dX12_tellSeries_55 (by decide) rfl ?_
                  refine g_iload_n hk dX12_tellSeries_56 rfl ?_
                  refine g_if_eq (tgt := 64) (a := 0) hk dX12_tellSeries_57 (by decide) rfl (fun _ => ?_) (fun z9 => absurd (show (0 : Int) = (0 : Int) from by decide) z9)
                  refine g_aload_n hk dX12_tellSeries_64 rfl ?_
                  refine gM_r0_27 hk hin12 (List.mem_cons_of_mem _ (List.mem_append_left _ (List.mem_of_getElem? (i := 14) rfl))) dX12_tellSeries_65 ?_
                  refine g_sipush (v := 160) hk dX12_tellSeries_68 (by decide) ?_
                  refine g_aload_n hk dX12_tellSeries_71 rfl ?_
                  refine gM_i16 (v := (I 16)) hk hin12 (List.mem_cons_of_mem _ (List.mem_append_left _ (List.mem_of_getElem? (i := 13) rfl))) dX12_tellSeries_72 (hI15258 16 rfl) ?_
                  by_cases c16446 : (I 16).toInt = 1
                  · have ec16446 : (I 16) = 1 := Int32.toInt_inj.mp c16446
                    replace hF := FE.pos hF c16446
                    rw [ec16446]
                    show GW κ 2 0 0 (wM r g I15258 A15258 L15258) 75 [(1, .int 0), (0, .ref (r 0))] [.int 1, .int 160, .ref (r 10)]
                    refine g_imul hk dX12_tellSeries_75 ?_
                    refine g_norm (v := 160) (by decide) ?_
                    refine g_aload_n hk dX12_tellSeries_76 rfl ?_
                    refine gM_r0_26 hk hin12 (List.mem_cons_of_mem _ (List.mem_append_left _ (List.mem_of_getElem? (i := 12) rfl))) dX12_tellSeries_77 ?_
                    refine g_aload_n hk dX12_tellSeries_80 rfl ?_
                    refine gM_i16 (v := (I 16)) hk hin12 (List.mem_cons_of_mem _ (List.mem_append_left _ (List.mem_of_getElem? (i := 13) rfl))) dX12_tellSeries_81 (hI15258 16 rfl) ?_
                    by_cases c16447 : (I 16).toInt = 1
                    · have ec16447 : (I 16) = 1 := Int32.toInt_inj.mp c16447
                      replace hF := FE.pos hF c16447
                      rw [ec16447]
                      show GW κ 2 0 0 (wM r g I15258 A15258 L15258) 84 [(1, .int 0), (0, .ref (r 0))] [.int 1, .ref (r 9), .int 160, .ref (r 10)]
                      refine lM_8 (v := (A15258 8 1)) hk (vp_in_iff.mpr ⟨by decide, by decide⟩) rfl dX12_tellSeries_84 ?_
                      refine g_iadd hk dX12_tellSeries_85 ?_
                      refine g_topi (fun y16448 ey16448 => ?_)
                      replace hF := FE.lt hF ey16448
                      have hy16448 : y16448.toInt = 160 + (A15258 8 1).toInt := i32_add ey16448 rfl rfl (by omega) (by omega)
                      refine g_iload_n hk dX12_tellSeries_86 rfl ?_
                      refine g_if_eq (tgt := 95) (a := 0) hk dX12_tellSeries_87 (by decide) rfl (fun _ => ?_) (fun z9 => absurd (show (0 : Int) = (0 : Int) from by decide) z9)
                      refine g_aload_n hk dX12_tellSeries_95 rfl ?_
                      refine g_callV (n := 0) hk (j132_X12_readingTold l D zt r g I15258 A15258 L15258  hV15258) (SP.same _) (fun _ h => h) (gi_V (List.mem_cons_of_mem _ (List.mem_append_left _ (List.mem_of_getElem? (i := 15) rfl))) (List.mem_cons_of_mem _ (List.mem_append_left _ (List.mem_of_getElem? (i := 16) rfl))) (List.mem_cons_of_mem _ (List.mem_append_left _ (List.mem_of_getElem? (i := 17) rfl))) (List.mem_cons_of_mem _ (List.mem_append_left _ (List.mem_of_getElem? (i := 4) rfl))) (gi_sub (fun w h => (List.mem_cons_of_mem _ (List.mem_append_right _ (List.mem_append_right _ (List.mem_append_right _ (List.mem_append_right _ (List.mem_append_right _ (List.mem_append_left _ h)))))))) zg_j132_X12_readingTold)) rfl rfl rfl (by decide +kernel) ⟨Nat.le_of_ble_eq_true rfl, Nat.le_of_ble_eq_true rfl⟩ 0 rfl rfl rfl rfl (Nat.le_of_ble_eq_true rfl) ⟨Nat.le_of_ble_eq_true rfl, Nat.le_of_ble_eq_true rfl⟩ dX12_tellSeries_96 (fun v ty' w' hp hk' => ?_)
                      obtain ⟨I16450, A16450, L16450, hI16450, hA16450, hV16450, y16449, r16451, r16452, r16453, r16454, hL16450, hC, rfl, rfl⟩ := hp
                      replace hF := FE.bdM hF hC
                      have f16455 := IvM_f4 hV16450
                      have f16456 := IvM_f6 hV16450
                      have f16457 := IvM_f8 hV16450
                      show GW κ 2 0 0 (wM r g I16450 A16450 L16450) 99 [(1, .int 0), (0, .ref (r 0))] [.int y16449, .int y16448, .ref (r 10)]
                      refine sM_9 (j := y16448.toNatClampNeg) hk (vp_in_iff.mpr ⟨by omega, by omega⟩) rfl dX12_tellSeries_99 ?_
                      refine g_aload_n hk dX12_tellSeries_100 rfl ?_
                      refine gM_i6 (v := (I16450 6)) hk hin12 (List.mem_cons_of_mem _ (List.mem_append_left _ (List.mem_of_getElem? (i := 11) rfl))) dX12_tellSeries_101 rfl ?_
                      refine g_if_le (tgt := 108) (a := (I16450 6).toInt) hk dX12_tellSeries_104 (by decide) rfl (fun c16458 => ?_) (fun c16458 => ?_)
                      · skip
                        replace hF := FE.pos hF c16458
                        refine g_aload_n hk dX12_tellSeries_108 rfl ?_
                        refine gM_r0_26 hk hin12 (List.mem_cons_of_mem _ (List.mem_append_left _ (List.mem_of_getElem? (i := 12) rfl))) dX12_tellSeries_109 ?_
                        refine g_aload_n hk dX12_tellSeries_112 rfl ?_
                        refine gM_i16 (v := (I 16)) hk hin12 (List.mem_cons_of_mem _ (List.mem_append_left _ (List.mem_of_getElem? (i := 13) rfl))) dX12_tellSeries_113 ((hI16450 16 rfl).trans (hI15258 16 rfl)) ?_
                        by_cases c16459 : (I 16).toInt = 1
                        · have ec16459 : (I 16) = 1 := Int32.toInt_inj.mp c16459
                          replace hF := FE.pos hF c16459
                          rw [ec16459]
                          show GW κ 2 0 0 (wM r g I16450 (up3 A16450 9 (y16448.toNatClampNeg) y16449) L16450) 116 [(1, .int 0), (0, .ref (r 0))] [.int 1, .ref (r 9)]
                          refine g_dup2 hk dX12_tellSeries_116 rfl rfl ?_
                          refine lM_8 (v := (A15258 8 1)) hk (vp_in_iff.mpr ⟨by decide, by decide⟩) (congrFun (hA16450 8 rfl) _) dX12_tellSeries_117 ?_
                          refine g_iconst (v := 1) hk dX12_tellSeries_118 (by decide) ?_
                          refine g_iadd hk dX12_tellSeries_119 ?_
                          refine g_topi (fun y16460 ey16460 => ?_)
                          replace hF := FE.lt hF ey16460
                          have hy16460 : y16460.toInt = (A15258 8 1).toInt + 1 := i32_add ey16460 rfl rfl (by omega) (by omega)
                          refine sM_8 (j := 1) hk (vp_in_iff.mpr ⟨by decide, by decide⟩) (by decide) dX12_tellSeries_120 ?_
                          have f16461 := IvM_s8_0 hV16450
                          have f16462 := IvM_s8_1 hV16450
                          refine g_aload_n hk dX12_tellSeries_121 rfl ?_
                          refine g_dup hk dX12_tellSeries_122 rfl ?_
                          refine gM_i11 (v := (I15258 11)) hk hin12 (List.mem_cons_of_mem _ (List.mem_append_left _ (List.mem_of_getElem? (i := 0) rfl))) dX12_tellSeries_123 (hI16450 11 rfl) ?_
                          refine g_iconst (v := 1) hk dX12_tellSeries_126 (by decide) ?_
                          have b16463l := Int32.le_toInt (I15258 11)
                          have b16463h := Int32.toInt_lt (I15258 11)
                          refine g_iadd hk dX12_tellSeries_127 ?_
                          refine g_topi (fun y16464 ey16464 => ?_)
                          replace hF := FE.lt hF ey16464
                          refine pM_i11 hk hin12 (List.mem_cons_of_mem _ (List.mem_append_left _ (List.mem_of_getElem? (i := 0) rfl))) dX12_tellSeries_128 ?_
                          refine g_goto (tgt := 5) hk dX12_tellSeries_131 (by decide) ?_
                          exact g_lv (List.forall_mem_cons.mpr ⟨List.mem_of_getElem? (i := 1) rfl, (fun _ h => absurd h List.not_mem_nil)⟩) (ih16295 (upd I16450 11 y16464) (up3 (up3 A16450 9 (y16448.toNatClampNeg) y16449) 8 1 y16460) L16450 (show Md [4, 6, 7, 8, 9, 11, 12, 13] (upd I 11 0) (upd I16450 11 y16464) from Md.tr hI15258 (show Md [4, 6, 7, 8, 9, 11, 12, 13] I15258 (upd I16450 11 y16464) from (Md.up (Md.tr Md.rf hI16450 rfl) rfl)) rfl) (show Md [8, 9] A (up3 (up3 A16450 9 (y16448.toNatClampNeg) y16449) 8 1 y16460) from Md.tr hA15258 (show Md [8, 9] A15258 (up3 (up3 A16450 9 (y16448.toNatClampNeg) y16449) 8 1 y16460) from (Md.up3 (Md.up3 (Md.tr Md.rf hA16450 rfl) rfl) rfl)) rfl) ⟨(IvM_f1 (I := I16450) (A := A16450) hV16450), (IvM_f2 (I := I16450) (A := A16450) hV16450), (IvM_f3 (I := I16450) (A := A16450) hV16450), (IvM_f4 (I := I16450) (A := A16450) hV16450), (IvM_f6 (I := I16450) (A := A16450) hV16450), (IvM_f8 (I := I16450) (A := A16450) hV16450), (IvM_f15 (I := I16450) (A := A16450) hV16450), (IvM_f16 (I := I16450) (A := A16450) hV16450), (IvM_f17 (I := I16450) (A := A16450) hV16450), (IvM_f18 (I := I16450) (A := A16450) hV16450), (IvM_f22 (I := I16450) (A := A16450) hV16450), (IvM_f23 (I := I16450) (A := A16450) hV16450), (IvM_f24 (I := I16450) (A := A16450) hV16450), (IvM_a11 (I := I16450) (A := A16450) hV16450), (IvM_a26 (I := I16450) (A := A16450) hV16450), (show 0 ≤ ((up3 (up3 A16450 9 (y16448.toNatClampNeg) y16449) 8 1 y16460) 8 0).toInt ∧ ((up3 (up3 A16450 9 (y16448.toNatClampNeg) y16449) 8 1 y16460) 8 0).toInt ≤ 160 from by rw [show (up3 (up3 A16450 9 (y16448.toNatClampNeg) y16449) 8 1 y16460) 8 0 = (A16450 8 0) from rfl]; exact (IvM_s8_0 (I := I16450) (A := A16450) hV16450)), (show 0 ≤ ((up3 (up3 A16450 9 (y16448.toNatClampNeg) y16449) 8 1 y16460) 8 1).toInt ∧ ((up3 (up3 A16450 9 (y16448.toNatClampNeg) y16449) 8 1 y16460) 8 1).toInt ≤ 160 from by rw [show (up3 (up3 A16450 9 (y16448.toNatClampNeg) y16449) 8 1 y16460) 8 1 = y16460 from rfl]; exact ⟨by omega, by omega⟩), (IvM_s10_0 (I := I16450) (A := A16450) hV16450), (IvM_s10_1 (I := I16450) (A := A16450) hV16450), (IvM_s17_0 (I := I16450) (A := A16450) hV16450), (IvM_s17_164 (I := I16450) (A := A16450) hV16450), (IvM_lv (I := I16450) (A := A16450) hV16450), (IvM_sd (I := I16450) (A := A16450) hV16450), (IvM_nq (I := I16450) (A := A16450) hV16450), (IvM_hr (I := I16450) (A := A16450) hV16450), (IvM_hh (I := I16450) (A := A16450) hV16450), trivial⟩ (show L16450 = L from (hL16450.trans hL15258)) (by first | (rw [show ((upd I16450 11 y16464) 4) = (I16450 4) from rfl] <;> omega) | omega) (by first | (rw [show ((upd I16450 11 y16464) 6) = (I16450 6) from rfl] <;> omega) | omega) (by first | (rw [show ((upd I16450 11 y16464) 8) = (I16450 8) from rfl] <;> omega) | omega) (by first | (rw [show ((upd I16450 11 y16464) 4) = (I16450 4) from rfl] <;> omega) | omega) (by omega) hF)
                        replace hF := FE.neg hF c16459
                        exfalso; omega
                      · skip
                        replace hF := FE.neg hF c16458
                        have f16465 := IvM_f4 hIv
                        have f16466 := IvM_f6 hIv
                        have f16467 := IvM_f8 hIv
                        exact g_vret hk hR ⟨I16450, (up3 A16450 9 (y16448.toNatClampNeg) y16449), L16450, (show Md [4, 6, 7, 8, 9, 11, 12, 13] I I16450 from (Md.tr (Md.tr (Md.up Md.rf rfl) hI15258 rfl) hI16450 rfl)), (show Md [8, 9] A (up3 A16450 9 (y16448.toNatClampNeg) y16449) from (Md.up3 (Md.tr (Md.tr Md.rf hA15258 rfl) hA16450 rfl) rfl)), ⟨(IvM_f1 (I := I16450) (A := A16450) hV16450), (IvM_f2 (I := I16450) (A := A16450) hV16450), (IvM_f3 (I := I16450) (A := A16450) hV16450), (IvM_f4 (I := I16450) (A := A16450) hV16450), (IvM_f6 (I := I16450) (A := A16450) hV16450), (IvM_f8 (I := I16450) (A := A16450) hV16450), (IvM_f15 (I := I16450) (A := A16450) hV16450), (IvM_f16 (I := I16450) (A := A16450) hV16450), (IvM_f17 (I := I16450) (A := A16450) hV16450), (IvM_f18 (I := I16450) (A := A16450) hV16450), (IvM_f22 (I := I16450) (A := A16450) hV16450), (IvM_f23 (I := I16450) (A := A16450) hV16450), (IvM_f24 (I := I16450) (A := A16450) hV16450), (IvM_a11 (I := I16450) (A := A16450) hV16450), (IvM_a26 (I := I16450) (A := A16450) hV16450), (IvM_s8_0 (I := I16450) (A := A16450) hV16450), (IvM_s8_1 (I := I16450) (A := A16450) hV16450), (IvM_s10_0 (I := I16450) (A := A16450) hV16450), (IvM_s10_1 (I := I16450) (A := A16450) hV16450), (IvM_s17_0 (I := I16450) (A := A16450) hV16450), (IvM_s17_164 (I := I16450) (A := A16450) hV16450), (IvM_lv (I := I16450) (A := A16450) hV16450), (IvM_sd (I := I16450) (A := A16450) hV16450), (IvM_nq (I := I16450) (A := A16450) hV16450), (IvM_hr (I := I16450) (A := A16450) hV16450), (IvM_hh (I := I16450) (A := A16450) hV16450), trivial⟩, (by omega), (by omega), (by omega), (show L16450 = L from (hL16450.trans hL15258)), hF, rfl, rfl⟩ dX12_tellSeries_107
                    replace hF := FE.neg hF c16447
                    exfalso; omega
                  replace hF := FE.neg hF c16446
                  exfalso; omega
                · skip
                  replace hF := FE.neg hF (fe_ne hC (by decide))
                  rw [show (A15258 2 (I15258 4).toNatClampNeg) = (A 2 (I15258 4).toNatClampNeg) from (congrFun (hA15258 2 rfl) _)] at c16444
                  show GW κ 2 0 0 (wM r g I15258 A15258 L15258) 55 [(0, .ref (r 0))] [.int 1]
                  refine g_istore_n (lv' := [(1, .int 1), (0, .ref (r 0))]) hk dX12_tellSeries_55 (by decide) rfl ?_
                  refine g_iload_n hk dX12_tellSeries_56 rfl ?_
                  refine g_if_eq (tgt := 64) (a := 1) hk dX12_tellSeries_57 (by decide) rfl (fun z9 => absurd z9 (show ¬ ((1 : Int) = (0 : Int)) from by decide)) (fun _ => ?_)
                  refine g_aload_n hk dX12_tellSeries_60 rfl ?_
                  refine g_callV (n := 0) hk (j127_X12_goesOn l D zt r g I15258 A15258 L15258  hV15258) (SP.same _) (fun _ h => h) (gi_V (List.mem_cons_of_mem _ (List.mem_append_left _ (List.mem_of_getElem? (i := 18) rfl))) (List.mem_cons_of_mem _ (List.mem_append_left _ (List.mem_of_getElem? (i := 19) rfl))) (List.mem_cons_of_mem _ (List.mem_append_left _ (List.mem_of_getElem? (i := 20) rfl))) (List.mem_cons_of_mem _ (List.mem_append_left _ (List.mem_of_getElem? (i := 4) rfl))) (gi_sub (fun w h => (List.mem_cons_of_mem _ (List.mem_append_right _ (List.mem_append_right _ (List.mem_append_right _ (List.mem_append_right _ (List.mem_append_right _ (List.mem_append_right _ (List.mem_append_left _ h))))))))) zg_j127_X12_goesOn)) rfl rfl rfl (by decide +kernel) ⟨Nat.le_of_ble_eq_true rfl, Nat.le_of_ble_eq_true rfl⟩ 0 rfl rfl rfl rfl (Nat.le_of_ble_eq_true rfl) ⟨Nat.le_of_ble_eq_true rfl, Nat.le_of_ble_eq_true rfl⟩ dX12_tellSeries_61 (fun v ty' w' hp hk' => ?_)
                  obtain ⟨I16469, A16469, L16469, hI16469, hA16469, hV16469, r16470, r16471, r16472, r16473, hL16469, hC, rfl, rfl⟩ := hp
                  replace hF := FE.bdM hF hC
                  have f16474 := IvM_f4 hV16469
                  have f16475 := IvM_f6 hV16469
                  rw [show (I16469 8) = (I15258 8) from (hI16469 8 rfl)] at r16472
                  show GW κ 2 0 0 (wM r g I16469 A16469 L16469) 64 [(1, .int 1), (0, .ref (r 0))] []
                  refine g_aload_n hk dX12_tellSeries_64 rfl ?_
                  refine gM_r0_27 hk hin12 (List.mem_cons_of_mem _ (List.mem_append_left _ (List.mem_of_getElem? (i := 14) rfl))) dX12_tellSeries_65 ?_
                  refine g_sipush (v := 160) hk dX12_tellSeries_68 (by decide) ?_
                  refine g_aload_n hk dX12_tellSeries_71 rfl ?_
                  refine gM_i16 (v := (I 16)) hk hin12 (List.mem_cons_of_mem _ (List.mem_append_left _ (List.mem_of_getElem? (i := 13) rfl))) dX12_tellSeries_72 ((hI16469 16 rfl).trans (hI15258 16 rfl)) ?_
                  by_cases c16476 : (I 16).toInt = 1
                  · have ec16476 : (I 16) = 1 := Int32.toInt_inj.mp c16476
                    replace hF := FE.pos hF c16476
                    rw [ec16476]
                    show GW κ 2 0 0 (wM r g I16469 A16469 L16469) 75 [(1, .int 1), (0, .ref (r 0))] [.int 1, .int 160, .ref (r 10)]
                    refine g_imul hk dX12_tellSeries_75 ?_
                    refine g_norm (v := 160) (by decide) ?_
                    refine g_aload_n hk dX12_tellSeries_76 rfl ?_
                    refine gM_r0_26 hk hin12 (List.mem_cons_of_mem _ (List.mem_append_left _ (List.mem_of_getElem? (i := 12) rfl))) dX12_tellSeries_77 ?_
                    refine g_aload_n hk dX12_tellSeries_80 rfl ?_
                    refine gM_i16 (v := (I 16)) hk hin12 (List.mem_cons_of_mem _ (List.mem_append_left _ (List.mem_of_getElem? (i := 13) rfl))) dX12_tellSeries_81 ((hI16469 16 rfl).trans (hI15258 16 rfl)) ?_
                    by_cases c16477 : (I 16).toInt = 1
                    · have ec16477 : (I 16) = 1 := Int32.toInt_inj.mp c16477
                      replace hF := FE.pos hF c16477
                      rw [ec16477]
                      show GW κ 2 0 0 (wM r g I16469 A16469 L16469) 84 [(1, .int 1), (0, .ref (r 0))] [.int 1, .ref (r 9), .int 160, .ref (r 10)]
                      refine lM_8 (v := (A15258 8 1)) hk (vp_in_iff.mpr ⟨by decide, by decide⟩) (congrFun (hA16469 8 rfl) _) dX12_tellSeries_84 ?_
                      refine g_iadd hk dX12_tellSeries_85 ?_
                      refine g_topi (fun y16478 ey16478 => ?_)
                      replace hF := FE.lt hF ey16478
                      have hy16478 : y16478.toInt = 160 + (A15258 8 1).toInt := i32_add ey16478 rfl rfl (by omega) (by omega)
                      refine g_iload_n hk dX12_tellSeries_86 rfl ?_
                      refine g_if_eq (tgt := 95) (a := 1) hk dX12_tellSeries_87 (by decide) rfl (fun z9 => absurd z9 (show ¬ ((1 : Int) = (0 : Int)) from by decide)) (fun _ => ?_)
                      refine g_ldc (v := 100000) hk (List.mem_cons_of_mem _ (List.mem_append_left _ (List.mem_of_getElem? (i := 21) rfl))) dX12_tellSeries_90 ?_
                      refine g_goto (tgt := 99) hk dX12_tellSeries_92 (by decide) ?_
                      have k16479 : (100000 : Int32).toInt = 100000 := rfl
                      refine sM_9 (j := y16478.toNatClampNeg) hk (vp_in_iff.mpr ⟨by omega, by omega⟩) rfl dX12_tellSeries_99 ?_
                      refine g_aload_n hk dX12_tellSeries_100 rfl ?_
                      refine gM_i6 (v := (I16469 6)) hk hin12 (List.mem_cons_of_mem _ (List.mem_append_left _ (List.mem_of_getElem? (i := 11) rfl))) dX12_tellSeries_101 rfl ?_
                      refine g_if_le (tgt := 108) (a := (I16469 6).toInt) hk dX12_tellSeries_104 (by decide) rfl (fun c16480 => ?_) (fun c16480 => ?_)
                      · skip
                        replace hF := FE.pos hF c16480
                        refine g_aload_n hk dX12_tellSeries_108 rfl ?_
                        refine gM_r0_26 hk hin12 (List.mem_cons_of_mem _ (List.mem_append_left _ (List.mem_of_getElem? (i := 12) rfl))) dX12_tellSeries_109 ?_
                        refine g_aload_n hk dX12_tellSeries_112 rfl ?_
                        refine gM_i16 (v := (I 16)) hk hin12 (List.mem_cons_of_mem _ (List.mem_append_left _ (List.mem_of_getElem? (i := 13) rfl))) dX12_tellSeries_113 ((hI16469 16 rfl).trans (hI15258 16 rfl)) ?_
                        by_cases c16481 : (I 16).toInt = 1
                        · have ec16481 : (I 16) = 1 := Int32.toInt_inj.mp c16481
                          replace hF := FE.pos hF c16481
                          rw [ec16481]
                          show GW κ 2 0 0 (wM r g I16469 (up3 A16469 9 (y16478.toNatClampNeg) 100000) L16469) 116 [(1, .int 1), (0, .ref (r 0))] [.int 1, .ref (r 9)]
                          refine g_dup2 hk dX12_tellSeries_116 rfl rfl ?_
                          refine lM_8 (v := (A15258 8 1)) hk (vp_in_iff.mpr ⟨by decide, by decide⟩) (congrFun (hA16469 8 rfl) _) dX12_tellSeries_117 ?_
                          refine g_iconst (v := 1) hk dX12_tellSeries_118 (by decide) ?_
                          refine g_iadd hk dX12_tellSeries_119 ?_
                          refine g_topi (fun y16482 ey16482 => ?_)
                          replace hF := FE.lt hF ey16482
                          have hy16482 : y16482.toInt = (A15258 8 1).toInt + 1 := i32_add ey16482 rfl rfl (by omega) (by omega)
                          refine sM_8 (j := 1) hk (vp_in_iff.mpr ⟨by decide, by decide⟩) (by decide) dX12_tellSeries_120 ?_
                          have f16483 := IvM_s8_0 hV16469
                          have f16484 := IvM_s8_1 hV16469
                          refine g_aload_n hk dX12_tellSeries_121 rfl ?_
                          refine g_dup hk dX12_tellSeries_122 rfl ?_
                          refine gM_i11 (v := (I15258 11)) hk hin12 (List.mem_cons_of_mem _ (List.mem_append_left _ (List.mem_of_getElem? (i := 0) rfl))) dX12_tellSeries_123 (hI16469 11 rfl) ?_
                          refine g_iconst (v := 1) hk dX12_tellSeries_126 (by decide) ?_
                          have b16485l := Int32.le_toInt (I15258 11)
                          have b16485h := Int32.toInt_lt (I15258 11)
                          refine g_iadd hk dX12_tellSeries_127 ?_
                          refine g_topi (fun y16486 ey16486 => ?_)
                          replace hF := FE.lt hF ey16486
                          refine pM_i11 hk hin12 (List.mem_cons_of_mem _ (List.mem_append_left _ (List.mem_of_getElem? (i := 0) rfl))) dX12_tellSeries_128 ?_
                          refine g_goto (tgt := 5) hk dX12_tellSeries_131 (by decide) ?_
                          exact g_lv (List.forall_mem_cons.mpr ⟨List.mem_of_getElem? (i := 1) rfl, (fun _ h => absurd h List.not_mem_nil)⟩) (ih16295 (upd I16469 11 y16486) (up3 (up3 A16469 9 (y16478.toNatClampNeg) 100000) 8 1 y16482) L16469 (show Md [4, 6, 7, 8, 9, 11, 12, 13] (upd I 11 0) (upd I16469 11 y16486) from Md.tr hI15258 (show Md [4, 6, 7, 8, 9, 11, 12, 13] I15258 (upd I16469 11 y16486) from (Md.up (Md.tr Md.rf hI16469 rfl) rfl)) rfl) (show Md [8, 9] A (up3 (up3 A16469 9 (y16478.toNatClampNeg) 100000) 8 1 y16482) from Md.tr hA15258 (show Md [8, 9] A15258 (up3 (up3 A16469 9 (y16478.toNatClampNeg) 100000) 8 1 y16482) from (Md.up3 (Md.up3 (Md.tr Md.rf hA16469 rfl) rfl) rfl)) rfl) ⟨(IvM_f1 (I := I16469) (A := A16469) hV16469), (IvM_f2 (I := I16469) (A := A16469) hV16469), (IvM_f3 (I := I16469) (A := A16469) hV16469), (IvM_f4 (I := I16469) (A := A16469) hV16469), (IvM_f6 (I := I16469) (A := A16469) hV16469), (IvM_f8 (I := I16469) (A := A16469) hV16469), (IvM_f15 (I := I16469) (A := A16469) hV16469), (IvM_f16 (I := I16469) (A := A16469) hV16469), (IvM_f17 (I := I16469) (A := A16469) hV16469), (IvM_f18 (I := I16469) (A := A16469) hV16469), (IvM_f22 (I := I16469) (A := A16469) hV16469), (IvM_f23 (I := I16469) (A := A16469) hV16469), (IvM_f24 (I := I16469) (A := A16469) hV16469), (IvM_a11 (I := I16469) (A := A16469) hV16469), (IvM_a26 (I := I16469) (A := A16469) hV16469), (show 0 ≤ ((up3 (up3 A16469 9 (y16478.toNatClampNeg) 100000) 8 1 y16482) 8 0).toInt ∧ ((up3 (up3 A16469 9 (y16478.toNatClampNeg) 100000) 8 1 y16482) 8 0).toInt ≤ 160 from by rw [show (up3 (up3 A16469 9 (y16478.toNatClampNeg) 100000) 8 1 y16482) 8 0 = (A16469 8 0) from rfl]; exact (IvM_s8_0 (I := I16469) (A := A16469) hV16469)), (show 0 ≤ ((up3 (up3 A16469 9 (y16478.toNatClampNeg) 100000) 8 1 y16482) 8 1).toInt ∧ ((up3 (up3 A16469 9 (y16478.toNatClampNeg) 100000) 8 1 y16482) 8 1).toInt ≤ 160 from by rw [show (up3 (up3 A16469 9 (y16478.toNatClampNeg) 100000) 8 1 y16482) 8 1 = y16482 from rfl]; exact ⟨by omega, by omega⟩), (IvM_s10_0 (I := I16469) (A := A16469) hV16469), (IvM_s10_1 (I := I16469) (A := A16469) hV16469), (IvM_s17_0 (I := I16469) (A := A16469) hV16469), (IvM_s17_164 (I := I16469) (A := A16469) hV16469), (IvM_lv (I := I16469) (A := A16469) hV16469), (IvM_sd (I := I16469) (A := A16469) hV16469), (IvM_nq (I := I16469) (A := A16469) hV16469), (IvM_hr (I := I16469) (A := A16469) hV16469), (IvM_hh (I := I16469) (A := A16469) hV16469), trivial⟩ (show L16469 = L from (hL16469.trans hL15258)) (by first | (rw [show ((upd I16469 11 y16486) 4) = (I16469 4) from rfl] <;> omega) | omega) (by first | (rw [show ((upd I16469 11 y16486) 6) = (I16469 6) from rfl] <;> omega) | omega) (by first | (rw [show ((upd I16469 11 y16486) 8) = (I15258 8) from (hI16469 8 rfl)] <;> omega) | omega) (by first | (rw [show ((upd I16469 11 y16486) 4) = (I16469 4) from rfl] <;> omega) | omega) (by omega) hF)
                        replace hF := FE.neg hF c16481
                        exfalso; omega
                      · skip
                        replace hF := FE.neg hF c16480
                        have f16487 := IvM_f4 hIv
                        have f16488 := IvM_f6 hIv
                        have f16489 := IvM_f8 hIv
                        exact g_vret hk hR ⟨I16469, (up3 A16469 9 (y16478.toNatClampNeg) 100000), L16469, (show Md [4, 6, 7, 8, 9, 11, 12, 13] I I16469 from (Md.tr (Md.tr (Md.up Md.rf rfl) hI15258 rfl) hI16469 rfl)), (show Md [8, 9] A (up3 A16469 9 (y16478.toNatClampNeg) 100000) from (Md.up3 (Md.tr (Md.tr Md.rf hA15258 rfl) hA16469 rfl) rfl)), ⟨(IvM_f1 (I := I16469) (A := A16469) hV16469), (IvM_f2 (I := I16469) (A := A16469) hV16469), (IvM_f3 (I := I16469) (A := A16469) hV16469), (IvM_f4 (I := I16469) (A := A16469) hV16469), (IvM_f6 (I := I16469) (A := A16469) hV16469), (IvM_f8 (I := I16469) (A := A16469) hV16469), (IvM_f15 (I := I16469) (A := A16469) hV16469), (IvM_f16 (I := I16469) (A := A16469) hV16469), (IvM_f17 (I := I16469) (A := A16469) hV16469), (IvM_f18 (I := I16469) (A := A16469) hV16469), (IvM_f22 (I := I16469) (A := A16469) hV16469), (IvM_f23 (I := I16469) (A := A16469) hV16469), (IvM_f24 (I := I16469) (A := A16469) hV16469), (IvM_a11 (I := I16469) (A := A16469) hV16469), (IvM_a26 (I := I16469) (A := A16469) hV16469), (IvM_s8_0 (I := I16469) (A := A16469) hV16469), (IvM_s8_1 (I := I16469) (A := A16469) hV16469), (IvM_s10_0 (I := I16469) (A := A16469) hV16469), (IvM_s10_1 (I := I16469) (A := A16469) hV16469), (IvM_s17_0 (I := I16469) (A := A16469) hV16469), (IvM_s17_164 (I := I16469) (A := A16469) hV16469), (IvM_lv (I := I16469) (A := A16469) hV16469), (IvM_sd (I := I16469) (A := A16469) hV16469), (IvM_nq (I := I16469) (A := A16469) hV16469), (IvM_hr (I := I16469) (A := A16469) hV16469), (IvM_hh (I := I16469) (A := A16469) hV16469), trivial⟩, (by omega), (by omega), (by rw [show (I16469 8) = (I15258 8) from (hI16469 8 rfl)] <;> omega), (show L16469 = L from (hL16469.trans hL15258)), hF, rfl, rfl⟩ dX12_tellSeries_107
                    replace hF := FE.neg hF c16477
                    exfalso; omega
                  replace hF := FE.neg hF c16476
                  exfalso; omega
              · skip
                replace hF := FE.neg hF c16441
                have f16490 := IvM_f4 hIv
                have f16491 := IvM_f6 hIv
                have f16492 := IvM_f8 hIv
                exact g_vret hk hR ⟨I15258, A15258, L15258, (show Md [4, 6, 7, 8, 9, 11, 12, 13] I I15258 from (Md.tr (Md.up Md.rf rfl) hI15258 rfl)), (show Md [8, 9] A A15258 from (Md.tr Md.rf hA15258 rfl)), hV15258, (by omega), (by omega), (by omega), (show L15258 = L from hL15258), hF, rfl, rfl⟩ dX12_tellSeries_48
            · skip
              replace hF := FE.neg hF c16440
              refine g_aload_n hk dX12_tellSeries_36 rfl ?_
              refine g_iconst (v := 2) hk dX12_tellSeries_37 (by decide) ?_
              have k16493 : (2 : Int32).toInt = 2 := rfl
              refine g_callV (n := 1) hk (j128_X12_fail l D zt r g I15258 A15258 L15258 2 hV15258 (by decide) (by decide)) (SP.same _) (fun _ h => h) (gi_V (List.mem_cons_of_mem _ (List.mem_append_left _ (List.mem_of_getElem? (i := 22) rfl))) (List.mem_cons_of_mem _ (List.mem_append_left _ (List.mem_of_getElem? (i := 23) rfl))) (List.mem_cons_of_mem _ (List.mem_append_left _ (List.mem_of_getElem? (i := 24) rfl))) (List.mem_cons_of_mem _ (List.mem_append_left _ (List.mem_of_getElem? (i := 4) rfl))) (gi_sub (fun w h => (List.mem_cons_of_mem _ (List.mem_append_right _ (List.mem_append_right _ (List.mem_append_right _ (List.mem_append_right _ (List.mem_append_right _ (List.mem_append_right _ (List.mem_append_right _ (List.mem_append_left _ h)))))))))) zg_j128_X12_fail)) rfl rfl rfl (by decide +kernel) ⟨Nat.le_of_ble_eq_true rfl, Nat.le_of_ble_eq_true rfl⟩ 0 rfl rfl rfl rfl (Nat.le_of_ble_eq_true rfl) ⟨Nat.le_of_ble_eq_true rfl, Nat.le_of_ble_eq_true rfl⟩ dX12_tellSeries_38 (fun v ty' w' hp hk' => ?_)
              obtain ⟨I16495, A16495, L16495, hI16495, hA16495, hV16495, r16496, r16497, r16498, hL16495, hC, rfl, rfl⟩ := hp
              replace hF := FE.bdM hF hC
              have f16499 := IvM_f6 hV16495
              rw [show (I16495 8) = (I15258 8) from (hI16495 8 rfl)] at r16497
              show GW κ 2 0 0 (wM r g I16495 A16495 L16495) 41 [(0, .ref (r 0))] []
              refine g_aload_n hk dX12_tellSeries_41 rfl ?_
              refine gM_i6 (v := (I16495 6)) hk hin12 (List.mem_cons_of_mem _ (List.mem_append_left _ (List.mem_of_getElem? (i := 11) rfl))) dX12_tellSeries_42 rfl ?_
              refine g_if_le (tgt := 49) (a := (I16495 6).toInt) hk dX12_tellSeries_45 (by decide) rfl (fun c16500 => ?_) (fun c16500 => ?_)
              · skip
                replace hF := FE.pos hF c16500
                refine g_aload_n hk dX12_tellSeries_49 rfl ?_
                refine g_bipush (v := 26) hk dX12_tellSeries_50 (by decide) ?_
                refine g_callV (n := 1) hk (j125_X12_is l D zt r g I16495 A16495 L16495 26 hV16495) (SP.same _) (fun _ h => h) (gi_V (List.mem_cons_of_mem _ (List.mem_append_left _ (List.mem_of_getElem? (i := 5) rfl))) (List.mem_cons_of_mem _ (List.mem_append_left _ (List.mem_of_getElem? (i := 6) rfl))) (List.mem_cons_of_mem _ (List.mem_append_left _ (List.mem_of_getElem? (i := 7) rfl))) (List.mem_cons_of_mem _ (List.mem_append_left _ (List.mem_of_getElem? (i := 4) rfl))) (gi_sub (fun w h => (List.mem_cons_of_mem _ (List.mem_append_right _ (List.mem_append_right _ (List.mem_append_right _ (List.mem_append_left _ h)))))) zg_j125_X12_is)) rfl rfl rfl (by decide +kernel) ⟨Nat.le_of_ble_eq_true rfl, Nat.le_of_ble_eq_true rfl⟩ 0 rfl rfl rfl rfl (Nat.le_of_ble_eq_true rfl) ⟨Nat.le_of_ble_eq_true rfl, Nat.le_of_ble_eq_true rfl⟩ dX12_tellSeries_52 (fun v ty' w' hp hk' => ?_)
                rcases hp with ⟨c16501, hC, rfl, rfl⟩ | ⟨c16503, hC, rfl, rfl⟩
                · skip
                  replace hF := FE.pos hF hC
                  rw [show (A16495 2 (I16495 4).toNatClampNeg) = (A 2 (I15258 4).toNatClampNeg) from (by rw [show I16495 4 = (I15258 4) from (hI16495 4 rfl)]; exact ((congrFun (hA16495 2 rfl) _).trans (congrFun (hA15258 2 rfl) _)))] at c16501
                  show GW κ 2 0 0 (wM r g I16495 A16495 L16495) 55 [(0, .ref (r 0))] [.int 0]
                  refine g_istore_n (lv' := [(1, .int 0), (0, .ref (r 0))]) hk dX12_tellSeries_55 (by decide) rfl ?_
                  refine g_iload_n hk dX12_tellSeries_56 rfl ?_
                  refine g_if_eq (tgt := 64) (a := 0) hk dX12_tellSeries_57 (by decide) rfl (fun _ => ?_) (fun z9 => absurd (show (0 : Int) = (0 : Int) from by decide) z9)
                  refine g_aload_n hk dX12_tellSeries_64 rfl ?_
                  refine gM_r0_27 hk hin12 (List.mem_cons_of_mem _ (List.mem_append_left _ (List.mem_of_getElem? (i := 14) rfl))) dX12_tellSeries_65 ?_
                  refine g_sipush (v := 160) hk dX12_tellSeries_68 (by decide) ?_
                  refine g_aload_n hk dX12_tellSeries_71 rfl ?_
                  refine gM_i16 (v := (I 16)) hk hin12 (List.mem_cons_of_mem _ (List.mem_append_left _ (List.mem_of_getElem? (i := 13) rfl))) dX12_tellSeries_72 ((hI16495 16 rfl).trans (hI15258 16 rfl)) ?_
                  by_cases c16505 : (I 16).toInt = 1
                  · have ec16505 : (I 16) = 1 := Int32.toInt_inj.mp c16505
                    replace hF := FE.pos hF c16505
                    rw [ec16505]
                    show GW κ 2 0 0 (wM r g I16495 A16495 L16495) 75 [(1, .int 0), (0, .ref (r 0))] [.int 1, .int 160, .ref (r 10)]
                    refine g_imul hk dX12_tellSeries_75 ?_
                    refine g_norm (v := 160) (by decide) ?_
                    refine g_aload_n hk dX12_tellSeries_76 rfl ?_
                    refine gM_r0_26 hk hin12 (List.mem_cons_of_mem _ (List.mem_append_left _ (List.mem_of_getElem? (i := 12) rfl))) dX12_tellSeries_77 ?_
                    refine g_aload_n hk dX12_tellSeries_80 rfl ?_
                    refine gM_i16 (v := (I 16)) hk hin12 (List.mem_cons_of_mem _ (List.mem_append_left _ (List.mem_of_getElem? (i := 13) rfl))) dX12_tellSeries_81 ((hI16495 16 rfl).trans (hI15258 16 rfl)) ?_
                    by_cases c16506 : (I 16).toInt = 1
                    · have ec16506 : (I 16) = 1 := Int32.toInt_inj.mp c16506
                      replace hF := FE.pos hF c16506
                      rw [ec16506]
                      show GW κ 2 0 0 (wM r g I16495 A16495 L16495) 84 [(1, .int 0), (0, .ref (r 0))] [.int 1, .ref (r 9), .int 160, .ref (r 10)]
                      refine lM_8 (v := (A15258 8 1)) hk (vp_in_iff.mpr ⟨by decide, by decide⟩) (congrFun (hA16495 8 rfl) _) dX12_tellSeries_84 ?_
                      refine g_iadd hk dX12_tellSeries_85 ?_
                      refine g_topi (fun y16507 ey16507 => ?_)
                      replace hF := FE.lt hF ey16507
                      have hy16507 : y16507.toInt = 160 + (A15258 8 1).toInt := i32_add ey16507 rfl rfl (by omega) (by omega)
                      refine g_iload_n hk dX12_tellSeries_86 rfl ?_
                      refine g_if_eq (tgt := 95) (a := 0) hk dX12_tellSeries_87 (by decide) rfl (fun _ => ?_) (fun z9 => absurd (show (0 : Int) = (0 : Int) from by decide) z9)
                      refine g_aload_n hk dX12_tellSeries_95 rfl ?_
                      refine g_callV (n := 0) hk (j132_X12_readingTold l D zt r g I16495 A16495 L16495  hV16495) (SP.same _) (fun _ h => h) (gi_V (List.mem_cons_of_mem _ (List.mem_append_left _ (List.mem_of_getElem? (i := 15) rfl))) (List.mem_cons_of_mem _ (List.mem_append_left _ (List.mem_of_getElem? (i := 16) rfl))) (List.mem_cons_of_mem _ (List.mem_append_left _ (List.mem_of_getElem? (i := 17) rfl))) (List.mem_cons_of_mem _ (List.mem_append_left _ (List.mem_of_getElem? (i := 4) rfl))) (gi_sub (fun w h => (List.mem_cons_of_mem _ (List.mem_append_right _ (List.mem_append_right _ (List.mem_append_right _ (List.mem_append_right _ (List.mem_append_right _ (List.mem_append_left _ h)))))))) zg_j132_X12_readingTold)) rfl rfl rfl (by decide +kernel) ⟨Nat.le_of_ble_eq_true rfl, Nat.le_of_ble_eq_true rfl⟩ 0 rfl rfl rfl rfl (Nat.le_of_ble_eq_true rfl) ⟨Nat.le_of_ble_eq_true rfl, Nat.le_of_ble_eq_true rfl⟩ dX12_tellSeries_96 (fun v ty' w' hp hk' => ?_)
                      obtain ⟨I16509, A16509, L16509, hI16509, hA16509, hV16509, y16508, r16510, r16511, r16512, r16513, hL16509, hC, rfl, rfl⟩ := hp
                      replace hF := FE.bdM hF hC
                      have f16514 := IvM_f4 hV16509
                      rw [show (I16495 4) = (I15258 4) from (hI16495 4 rfl)] at r16510
                      have f16515 := IvM_f6 hV16509
                      have f16516 := IvM_f8 hV16509
                      rw [show (I16495 8) = (I15258 8) from (hI16495 8 rfl)] at r16512
                      rw [show (I16495 4) = (I15258 4) from (hI16495 4 rfl)] at r16513
                      show GW κ 2 0 0 (wM r g I16509 A16509 L16509) 99 [(1, .int 0), (0, .ref (r 0))] [.int y16508, .int y16507, .ref (r 10)]
                      refine sM_9 (j := y16507.toNatClampNeg) hk (vp_in_iff.mpr ⟨by omega, by omega⟩) rfl dX12_tellSeries_99 ?_
                      refine g_aload_n hk dX12_tellSeries_100 rfl ?_
                      refine gM_i6 (v := (I16509 6)) hk hin12 (List.mem_cons_of_mem _ (List.mem_append_left _ (List.mem_of_getElem? (i := 11) rfl))) dX12_tellSeries_101 rfl ?_
                      refine g_if_le (tgt := 108) (a := (I16509 6).toInt) hk dX12_tellSeries_104 (by decide) rfl (fun c16517 => ?_) (fun c16517 => ?_)
                      · skip
                        replace hF := FE.pos hF c16517
                        refine g_aload_n hk dX12_tellSeries_108 rfl ?_
                        refine gM_r0_26 hk hin12 (List.mem_cons_of_mem _ (List.mem_append_left _ (List.mem_of_getElem? (i := 12) rfl))) dX12_tellSeries_109 ?_
                        refine g_aload_n hk dX12_tellSeries_112 rfl ?_
                        refine gM_i16 (v := (I 16)) hk hin12 (List.mem_cons_of_mem _ (List.mem_append_left _ (List.mem_of_getElem? (i := 13) rfl))) dX12_tellSeries_113 ((hI16509 16 rfl).trans ((hI16495 16 rfl).trans (hI15258 16 rfl))) ?_
                        by_cases c16518 : (I 16).toInt = 1
                        · have ec16518 : (I 16) = 1 := Int32.toInt_inj.mp c16518
                          replace hF := FE.pos hF c16518
                          rw [ec16518]
                          show GW κ 2 0 0 (wM r g I16509 (up3 A16509 9 (y16507.toNatClampNeg) y16508) L16509) 116 [(1, .int 0), (0, .ref (r 0))] [.int 1, .ref (r 9)]
                          refine g_dup2 hk dX12_tellSeries_116 rfl rfl ?_
                          refine lM_8 (v := (A15258 8 1)) hk (vp_in_iff.mpr ⟨by decide, by decide⟩) ((congrFun (hA16509 8 rfl) _).trans (congrFun (hA16495 8 rfl) _)) dX12_tellSeries_117 ?_
                          refine g_iconst (v := 1) hk dX12_tellSeries_118 (by decide) ?_
                          refine g_iadd hk dX12_tellSeries_119 ?_
                          refine g_topi (fun y16519 ey16519 => ?_)
                          replace hF := FE.lt hF ey16519
                          have hy16519 : y16519.toInt = (A15258 8 1).toInt + 1 := i32_add ey16519 rfl rfl (by omega) (by omega)
                          refine sM_8 (j := 1) hk (vp_in_iff.mpr ⟨by decide, by decide⟩) (by decide) dX12_tellSeries_120 ?_
                          have f16520 := IvM_s8_0 hV16509
                          have f16521 := IvM_s8_1 hV16509
                          refine g_aload_n hk dX12_tellSeries_121 rfl ?_
                          refine g_dup hk dX12_tellSeries_122 rfl ?_
                          refine gM_i11 (v := (I15258 11)) hk hin12 (List.mem_cons_of_mem _ (List.mem_append_left _ (List.mem_of_getElem? (i := 0) rfl))) dX12_tellSeries_123 ((hI16509 11 rfl).trans (hI16495 11 rfl)) ?_
                          refine g_iconst (v := 1) hk dX12_tellSeries_126 (by decide) ?_
                          have b16522l := Int32.le_toInt (I15258 11)
                          have b16522h := Int32.toInt_lt (I15258 11)
                          refine g_iadd hk dX12_tellSeries_127 ?_
                          refine g_topi (fun y16523 ey16523 => ?_)
                          replace hF := FE.lt hF ey16523
                          refine pM_i11 hk hin12 (List.mem_cons_of_mem _ (List.mem_append_left _ (List.mem_of_getElem? (i := 0) rfl))) dX12_tellSeries_128 ?_
                          refine g_goto (tgt := 5) hk dX12_tellSeries_131 (by decide) ?_
                          exact g_lv (List.forall_mem_cons.mpr ⟨List.mem_of_getElem? (i := 1) rfl, (fun _ h => absurd h List.not_mem_nil)⟩) (ih16295 (upd I16509 11 y16523) (up3 (up3 A16509 9 (y16507.toNatClampNeg) y16508) 8 1 y16519) L16509 (show Md [4, 6, 7, 8, 9, 11, 12, 13] (upd I 11 0) (upd I16509 11 y16523) from Md.tr hI15258 (show Md [4, 6, 7, 8, 9, 11, 12, 13] I15258 (upd I16509 11 y16523) from (Md.up (Md.tr (Md.tr Md.rf hI16495 rfl) hI16509 rfl) rfl)) rfl) (show Md [8, 9] A (up3 (up3 A16509 9 (y16507.toNatClampNeg) y16508) 8 1 y16519) from Md.tr hA15258 (show Md [8, 9] A15258 (up3 (up3 A16509 9 (y16507.toNatClampNeg) y16508) 8 1 y16519) from (Md.up3 (Md.up3 (Md.tr (Md.tr Md.rf hA16495 rfl) hA16509 rfl) rfl) rfl)) rfl) ⟨(IvM_f1 (I := I16509) (A := A16509) hV16509), (IvM_f2 (I := I16509) (A := A16509) hV16509), (IvM_f3 (I := I16509) (A := A16509) hV16509), (IvM_f4 (I := I16509) (A := A16509) hV16509), (IvM_f6 (I := I16509) (A := A16509) hV16509), (IvM_f8 (I := I16509) (A := A16509) hV16509), (IvM_f15 (I := I16509) (A := A16509) hV16509), (IvM_f16 (I := I16509) (A := A16509) hV16509), (IvM_f17 (I := I16509) (A := A16509) hV16509), (IvM_f18 (I := I16509) (A := A16509) hV16509), (IvM_f22 (I := I16509) (A := A16509) hV16509), (IvM_f23 (I := I16509) (A := A16509) hV16509), (IvM_f24 (I := I16509) (A := A16509) hV16509), (IvM_a11 (I := I16509) (A := A16509) hV16509), (IvM_a26 (I := I16509) (A := A16509) hV16509), (show 0 ≤ ((up3 (up3 A16509 9 (y16507.toNatClampNeg) y16508) 8 1 y16519) 8 0).toInt ∧ ((up3 (up3 A16509 9 (y16507.toNatClampNeg) y16508) 8 1 y16519) 8 0).toInt ≤ 160 from by rw [show (up3 (up3 A16509 9 (y16507.toNatClampNeg) y16508) 8 1 y16519) 8 0 = (A16509 8 0) from rfl]; exact (IvM_s8_0 (I := I16509) (A := A16509) hV16509)), (show 0 ≤ ((up3 (up3 A16509 9 (y16507.toNatClampNeg) y16508) 8 1 y16519) 8 1).toInt ∧ ((up3 (up3 A16509 9 (y16507.toNatClampNeg) y16508) 8 1 y16519) 8 1).toInt ≤ 160 from by rw [show (up3 (up3 A16509 9 (y16507.toNatClampNeg) y16508) 8 1 y16519) 8 1 = y16519 from rfl]; exact ⟨by omega, by omega⟩), (IvM_s10_0 (I := I16509) (A := A16509) hV16509), (IvM_s10_1 (I := I16509) (A := A16509) hV16509), (IvM_s17_0 (I := I16509) (A := A16509) hV16509), (IvM_s17_164 (I := I16509) (A := A16509) hV16509), (IvM_lv (I := I16509) (A := A16509) hV16509), (IvM_sd (I := I16509) (A := A16509) hV16509), (IvM_nq (I := I16509) (A := A16509) hV16509), (IvM_hr (I := I16509) (A := A16509) hV16509), (IvM_hh (I := I16509) (A := A16509) hV16509), trivial⟩ (show L16509 = L from ((hL16509.trans hL16495).trans hL15258)) (by first | (rw [show ((upd I16509 11 y16523) 4) = (I16509 4) from rfl] <;> omega) | omega) (by first | (rw [show ((upd I16509 11 y16523) 6) = (I16509 6) from rfl] <;> omega) | omega) (by first | (rw [show ((upd I16509 11 y16523) 8) = (I16509 8) from rfl] <;> omega) | omega) (by first | (rw [show ((upd I16509 11 y16523) 4) = (I16509 4) from rfl] <;> omega) | omega) (by omega) hF)
                        replace hF := FE.neg hF c16518
                        exfalso; omega
                      · skip
                        replace hF := FE.neg hF c16517
                        have f16524 := IvM_f4 hIv
                        have f16525 := IvM_f6 hIv
                        have f16526 := IvM_f8 hIv
                        exact g_vret hk hR ⟨I16509, (up3 A16509 9 (y16507.toNatClampNeg) y16508), L16509, (show Md [4, 6, 7, 8, 9, 11, 12, 13] I I16509 from (Md.tr (Md.tr (Md.tr (Md.up Md.rf rfl) hI15258 rfl) hI16495 rfl) hI16509 rfl)), (show Md [8, 9] A (up3 A16509 9 (y16507.toNatClampNeg) y16508) from (Md.up3 (Md.tr (Md.tr (Md.tr Md.rf hA15258 rfl) hA16495 rfl) hA16509 rfl) rfl)), ⟨(IvM_f1 (I := I16509) (A := A16509) hV16509), (IvM_f2 (I := I16509) (A := A16509) hV16509), (IvM_f3 (I := I16509) (A := A16509) hV16509), (IvM_f4 (I := I16509) (A := A16509) hV16509), (IvM_f6 (I := I16509) (A := A16509) hV16509), (IvM_f8 (I := I16509) (A := A16509) hV16509), (IvM_f15 (I := I16509) (A := A16509) hV16509), (IvM_f16 (I := I16509) (A := A16509) hV16509), (IvM_f17 (I := I16509) (A := A16509) hV16509), (IvM_f18 (I := I16509) (A := A16509) hV16509), (IvM_f22 (I := I16509) (A := A16509) hV16509), (IvM_f23 (I := I16509) (A := A16509) hV16509), (IvM_f24 (I := I16509) (A := A16509) hV16509), (IvM_a11 (I := I16509) (A := A16509) hV16509), (IvM_a26 (I := I16509) (A := A16509) hV16509), (IvM_s8_0 (I := I16509) (A := A16509) hV16509), (IvM_s8_1 (I := I16509) (A := A16509) hV16509), (IvM_s10_0 (I := I16509) (A := A16509) hV16509), (IvM_s10_1 (I := I16509) (A := A16509) hV16509), (IvM_s17_0 (I := I16509) (A := A16509) hV16509), (IvM_s17_164 (I := I16509) (A := A16509) hV16509), (IvM_lv (I := I16509) (A := A16509) hV16509), (IvM_sd (I := I16509) (A := A16509) hV16509), (IvM_nq (I := I16509) (A := A16509) hV16509), (IvM_hr (I := I16509) (A := A16509) hV16509), (IvM_hh (I := I16509) (A := A16509) hV16509), trivial⟩, (by omega), (by omega), (by omega), (show L16509 = L from (hL16509.trans (hL16495.trans hL15258))), hF, rfl, rfl⟩ dX12_tellSeries_107
                    replace hF := FE.neg hF c16506
                    exfalso; omega
                  replace hF := FE.neg hF c16505
                  exfalso; omega
                · skip
                  replace hF := FE.neg hF (fe_ne hC (by decide))
                  rw [show (A16495 2 (I16495 4).toNatClampNeg) = (A 2 (I15258 4).toNatClampNeg) from (by rw [show I16495 4 = (I15258 4) from (hI16495 4 rfl)]; exact ((congrFun (hA16495 2 rfl) _).trans (congrFun (hA15258 2 rfl) _)))] at c16503
                  show GW κ 2 0 0 (wM r g I16495 A16495 L16495) 55 [(0, .ref (r 0))] [.int 1]
                  refine g_istore_n (lv' := [(1, .int 1), (0, .ref (r 0))]) hk dX12_tellSeries_55 (by decide) rfl ?_
                  refine g_iload_n hk dX12_tellSeries_56 rfl ?_
                  refine g_if_eq (tgt := 64) (a := 1) hk dX12_tellSeries_57 (by decide) rfl (fun z9 => absurd z9 (show ¬ ((1 : Int) = (0 : Int)) from by decide)) (fun _ => ?_)
                  refine g_aload_n hk dX12_tellSeries_60 rfl ?_
                  refine g_callV (n := 0) hk (j127_X12_goesOn l D zt r g I16495 A16495 L16495  hV16495) (SP.same _) (fun _ h => h) (gi_V (List.mem_cons_of_mem _ (List.mem_append_left _ (List.mem_of_getElem? (i := 18) rfl))) (List.mem_cons_of_mem _ (List.mem_append_left _ (List.mem_of_getElem? (i := 19) rfl))) (List.mem_cons_of_mem _ (List.mem_append_left _ (List.mem_of_getElem? (i := 20) rfl))) (List.mem_cons_of_mem _ (List.mem_append_left _ (List.mem_of_getElem? (i := 4) rfl))) (gi_sub (fun w h => (List.mem_cons_of_mem _ (List.mem_append_right _ (List.mem_append_right _ (List.mem_append_right _ (List.mem_append_right _ (List.mem_append_right _ (List.mem_append_right _ (List.mem_append_left _ h))))))))) zg_j127_X12_goesOn)) rfl rfl rfl (by decide +kernel) ⟨Nat.le_of_ble_eq_true rfl, Nat.le_of_ble_eq_true rfl⟩ 0 rfl rfl rfl rfl (Nat.le_of_ble_eq_true rfl) ⟨Nat.le_of_ble_eq_true rfl, Nat.le_of_ble_eq_true rfl⟩ dX12_tellSeries_61 (fun v ty' w' hp hk' => ?_)
                  obtain ⟨I16528, A16528, L16528, hI16528, hA16528, hV16528, r16529, r16530, r16531, r16532, hL16528, hC, rfl, rfl⟩ := hp
                  replace hF := FE.bdM hF hC
                  have f16533 := IvM_f4 hV16528
                  rw [show (I16495 4) = (I15258 4) from (hI16495 4 rfl)] at r16529
                  have f16534 := IvM_f6 hV16528
                  rw [show (I16495 8) = (I15258 8) from (hI16495 8 rfl), show (I16528 8) = (I15258 8) from ((hI16528 8 rfl).trans (hI16495 8 rfl))] at r16531
                  rw [show (I16495 4) = (I15258 4) from (hI16495 4 rfl)] at r16532
                  show GW κ 2 0 0 (wM r g I16528 A16528 L16528) 64 [(1, .int 1), (0, .ref (r 0))] []
                  refine g_aload_n hk dX12_tellSeries_64 rfl ?_
                  refine gM_r0_27 hk hin12 (List.mem_cons_of_mem _ (List.mem_append_left _ (List.mem_of_getElem? (i := 14) rfl))) dX12_tellSeries_65 ?_
                  refine g_sipush (v := 160) hk dX12_tellSeries_68 (by decide) ?_
                  refine g_aload_n hk dX12_tellSeries_71 rfl ?_
                  refine gM_i16 (v := (I 16)) hk hin12 (List.mem_cons_of_mem _ (List.mem_append_left _ (List.mem_of_getElem? (i := 13) rfl))) dX12_tellSeries_72 ((hI16528 16 rfl).trans ((hI16495 16 rfl).trans (hI15258 16 rfl))) ?_
                  by_cases c16535 : (I 16).toInt = 1
                  · have ec16535 : (I 16) = 1 := Int32.toInt_inj.mp c16535
                    replace hF := FE.pos hF c16535
                    rw [ec16535]
                    show GW κ 2 0 0 (wM r g I16528 A16528 L16528) 75 [(1, .int 1), (0, .ref (r 0))] [.int 1, .int 160, .ref (r 10)]
                    refine g_imul hk dX12_tellSeries_75 ?_
                    refine g_norm (v := 160) (by decide) ?_
                    refine g_aload_n hk dX12_tellSeries_76 rfl ?_
                    refine gM_r0_26 hk hin12 (List.mem_cons_of_mem _ (List.mem_append_left _ (List.mem_of_getElem? (i := 12) rfl))) dX12_tellSeries_77 ?_
                    refine g_aload_n hk dX12_tellSeries_80 rfl ?_
                    refine gM_i16 (v := (I 16)) hk hin12 (List.mem_cons_of_mem _ (List.mem_append_left _ (List.mem_of_getElem? (i := 13) rfl))) dX12_tellSeries_81 ((hI16528 16 rfl).trans ((hI16495 16 rfl).trans (hI15258 16 rfl))) ?_
                    by_cases c16536 : (I 16).toInt = 1
                    · have ec16536 : (I 16) = 1 := Int32.toInt_inj.mp c16536
                      replace hF := FE.pos hF c16536
                      rw [ec16536]
                      show GW κ 2 0 0 (wM r g I16528 A16528 L16528) 84 [(1, .int 1), (0, .ref (r 0))] [.int 1, .ref (r 9), .int 160, .ref (r 10)]
                      refine lM_8 (v := (A15258 8 1)) hk (vp_in_iff.mpr ⟨by decide, by decide⟩) ((congrFun (hA16528 8 rfl) _).trans (congrFun (hA16495 8 rfl) _)) dX12_tellSeries_84 ?_
                      refine g_iadd hk dX12_tellSeries_85 ?_
                      refine g_topi (fun y16537 ey16537 => ?_)
                      replace hF := FE.lt hF ey16537
                      have hy16537 : y16537.toInt = 160 + (A15258 8 1).toInt := i32_add ey16537 rfl rfl (by omega) (by omega)
                      refine g_iload_n hk dX12_tellSeries_86 rfl ?_
                      refine g_if_eq (tgt := 95) (a := 1) hk dX12_tellSeries_87 (by decide) rfl (fun z9 => absurd z9 (show ¬ ((1 : Int) = (0 : Int)) from by decide)) (fun _ => ?_)
                      refine g_ldc (v := 100000) hk (List.mem_cons_of_mem _ (List.mem_append_left _ (List.mem_of_getElem? (i := 21) rfl))) dX12_tellSeries_90 ?_
                      refine g_goto (tgt := 99) hk dX12_tellSeries_92 (by decide) ?_
                      have k16538 : (100000 : Int32).toInt = 100000 := rfl
                      refine sM_9 (j := y16537.toNatClampNeg) hk (vp_in_iff.mpr ⟨by omega, by omega⟩) rfl dX12_tellSeries_99 ?_
                      refine g_aload_n hk dX12_tellSeries_100 rfl ?_
                      refine gM_i6 (v := (I16528 6)) hk hin12 (List.mem_cons_of_mem _ (List.mem_append_left _ (List.mem_of_getElem? (i := 11) rfl))) dX12_tellSeries_101 rfl ?_
                      refine g_if_le (tgt := 108) (a := (I16528 6).toInt) hk dX12_tellSeries_104 (by decide) rfl (fun c16539 => ?_) (fun c16539 => ?_)
                      · skip
                        replace hF := FE.pos hF c16539
                        refine g_aload_n hk dX12_tellSeries_108 rfl ?_
                        refine gM_r0_26 hk hin12 (List.mem_cons_of_mem _ (List.mem_append_left _ (List.mem_of_getElem? (i := 12) rfl))) dX12_tellSeries_109 ?_
                        refine g_aload_n hk dX12_tellSeries_112 rfl ?_
                        refine gM_i16 (v := (I 16)) hk hin12 (List.mem_cons_of_mem _ (List.mem_append_left _ (List.mem_of_getElem? (i := 13) rfl))) dX12_tellSeries_113 ((hI16528 16 rfl).trans ((hI16495 16 rfl).trans (hI15258 16 rfl))) ?_
                        by_cases c16540 : (I 16).toInt = 1
                        · have ec16540 : (I 16) = 1 := Int32.toInt_inj.mp c16540
                          replace hF := FE.pos hF c16540
                          rw [ec16540]
                          show GW κ 2 0 0 (wM r g I16528 (up3 A16528 9 (y16537.toNatClampNeg) 100000) L16528) 116 [(1, .int 1), (0, .ref (r 0))] [.int 1, .ref (r 9)]
                          refine g_dup2 hk dX12_tellSeries_116 rfl rfl ?_
                          refine lM_8 (v := (A15258 8 1)) hk (vp_in_iff.mpr ⟨by decide, by decide⟩) ((congrFun (hA16528 8 rfl) _).trans (congrFun (hA16495 8 rfl) _)) dX12_tellSeries_117 ?_
                          refine g_iconst (v := 1) hk dX12_tellSeries_118 (by decide) ?_
                          refine g_iadd hk dX12_tellSeries_119 ?_
                          refine g_topi (fun y16541 ey16541 => ?_)
                          replace hF := FE.lt hF ey16541
                          have hy16541 : y16541.toInt = (A15258 8 1).toInt + 1 := i32_add ey16541 rfl rfl (by omega) (by omega)
                          refine sM_8 (j := 1) hk (vp_in_iff.mpr ⟨by decide, by decide⟩) (by decide) dX12_tellSeries_120 ?_
                          have f16542 := IvM_s8_0 hV16528
                          have f16543 := IvM_s8_1 hV16528
                          refine g_aload_n hk dX12_tellSeries_121 rfl ?_
                          refine g_dup hk dX12_tellSeries_122 rfl ?_
                          refine gM_i11 (v := (I15258 11)) hk hin12 (List.mem_cons_of_mem _ (List.mem_append_left _ (List.mem_of_getElem? (i := 0) rfl))) dX12_tellSeries_123 ((hI16528 11 rfl).trans (hI16495 11 rfl)) ?_
                          refine g_iconst (v := 1) hk dX12_tellSeries_126 (by decide) ?_
                          have b16544l := Int32.le_toInt (I15258 11)
                          have b16544h := Int32.toInt_lt (I15258 11)
                          refine g_iadd hk dX12_tellSeries_127 ?_
                          refine g_topi (fun y16545 ey16545 => ?_)
                          replace hF := FE.lt hF ey16545
                          refine pM_i11 hk hin12 (List.mem_cons_of_mem _ (List.mem_append_left _ (List.mem_of_getElem? (i := 0) rfl))) dX12_tellSeries_128 ?_
                          refine g_goto (tgt := 5) hk dX12_tellSeries_131 (by decide) ?_
                          exact g_lv (List.forall_mem_cons.mpr ⟨List.mem_of_getElem? (i := 1) rfl, (fun _ h => absurd h List.not_mem_nil)⟩) (ih16295 (upd I16528 11 y16545) (up3 (up3 A16528 9 (y16537.toNatClampNeg) 100000) 8 1 y16541) L16528 (show Md [4, 6, 7, 8, 9, 11, 12, 13] (upd I 11 0) (upd I16528 11 y16545) from Md.tr hI15258 (show Md [4, 6, 7, 8, 9, 11, 12, 13] I15258 (upd I16528 11 y16545) from (Md.up (Md.tr (Md.tr Md.rf hI16495 rfl) hI16528 rfl) rfl)) rfl) (show Md [8, 9] A (up3 (up3 A16528 9 (y16537.toNatClampNeg) 100000) 8 1 y16541) from Md.tr hA15258 (show Md [8, 9] A15258 (up3 (up3 A16528 9 (y16537.toNatClampNeg) 100000) 8 1 y16541) from (Md.up3 (Md.up3 (Md.tr (Md.tr Md.rf hA16495 rfl) hA16528 rfl) rfl) rfl)) rfl) ⟨(IvM_f1 (I := I16528) (A := A16528) hV16528), (IvM_f2 (I := I16528) (A := A16528) hV16528), (IvM_f3 (I := I16528) (A := A16528) hV16528), (IvM_f4 (I := I16528) (A := A16528) hV16528), (IvM_f6 (I := I16528) (A := A16528) hV16528), (IvM_f8 (I := I16528) (A := A16528) hV16528), (IvM_f15 (I := I16528) (A := A16528) hV16528), (IvM_f16 (I := I16528) (A := A16528) hV16528), (IvM_f17 (I := I16528) (A := A16528) hV16528), (IvM_f18 (I := I16528) (A := A16528) hV16528), (IvM_f22 (I := I16528) (A := A16528) hV16528), (IvM_f23 (I := I16528) (A := A16528) hV16528), (IvM_f24 (I := I16528) (A := A16528) hV16528), (IvM_a11 (I := I16528) (A := A16528) hV16528), (IvM_a26 (I := I16528) (A := A16528) hV16528), (show 0 ≤ ((up3 (up3 A16528 9 (y16537.toNatClampNeg) 100000) 8 1 y16541) 8 0).toInt ∧ ((up3 (up3 A16528 9 (y16537.toNatClampNeg) 100000) 8 1 y16541) 8 0).toInt ≤ 160 from by rw [show (up3 (up3 A16528 9 (y16537.toNatClampNeg) 100000) 8 1 y16541) 8 0 = (A16528 8 0) from rfl]; exact (IvM_s8_0 (I := I16528) (A := A16528) hV16528)), (show 0 ≤ ((up3 (up3 A16528 9 (y16537.toNatClampNeg) 100000) 8 1 y16541) 8 1).toInt ∧ ((up3 (up3 A16528 9 (y16537.toNatClampNeg) 100000) 8 1 y16541) 8 1).toInt ≤ 160 from by rw [show (up3 (up3 A16528 9 (y16537.toNatClampNeg) 100000) 8 1 y16541) 8 1 = y16541 from rfl]; exact ⟨by omega, by omega⟩), (IvM_s10_0 (I := I16528) (A := A16528) hV16528), (IvM_s10_1 (I := I16528) (A := A16528) hV16528), (IvM_s17_0 (I := I16528) (A := A16528) hV16528), (IvM_s17_164 (I := I16528) (A := A16528) hV16528), (IvM_lv (I := I16528) (A := A16528) hV16528), (IvM_sd (I := I16528) (A := A16528) hV16528), (IvM_nq (I := I16528) (A := A16528) hV16528), (IvM_hr (I := I16528) (A := A16528) hV16528), (IvM_hh (I := I16528) (A := A16528) hV16528), trivial⟩ (show L16528 = L from ((hL16528.trans hL16495).trans hL15258)) (by first | (rw [show ((upd I16528 11 y16545) 4) = (I16528 4) from rfl] <;> omega) | omega) (by first | (rw [show ((upd I16528 11 y16545) 6) = (I16528 6) from rfl] <;> omega) | omega) (by first | (rw [show ((upd I16528 11 y16545) 8) = (I15258 8) from ((hI16528 8 rfl).trans (hI16495 8 rfl))] <;> omega) | omega) (by first | (rw [show ((upd I16528 11 y16545) 4) = (I16528 4) from rfl] <;> omega) | omega) (by omega) hF)
                        replace hF := FE.neg hF c16540
                        exfalso; omega
                      · skip
                        replace hF := FE.neg hF c16539
                        have f16546 := IvM_f4 hIv
                        have f16547 := IvM_f6 hIv
                        have f16548 := IvM_f8 hIv
                        exact g_vret hk hR ⟨I16528, (up3 A16528 9 (y16537.toNatClampNeg) 100000), L16528, (show Md [4, 6, 7, 8, 9, 11, 12, 13] I I16528 from (Md.tr (Md.tr (Md.tr (Md.up Md.rf rfl) hI15258 rfl) hI16495 rfl) hI16528 rfl)), (show Md [8, 9] A (up3 A16528 9 (y16537.toNatClampNeg) 100000) from (Md.up3 (Md.tr (Md.tr (Md.tr Md.rf hA15258 rfl) hA16495 rfl) hA16528 rfl) rfl)), ⟨(IvM_f1 (I := I16528) (A := A16528) hV16528), (IvM_f2 (I := I16528) (A := A16528) hV16528), (IvM_f3 (I := I16528) (A := A16528) hV16528), (IvM_f4 (I := I16528) (A := A16528) hV16528), (IvM_f6 (I := I16528) (A := A16528) hV16528), (IvM_f8 (I := I16528) (A := A16528) hV16528), (IvM_f15 (I := I16528) (A := A16528) hV16528), (IvM_f16 (I := I16528) (A := A16528) hV16528), (IvM_f17 (I := I16528) (A := A16528) hV16528), (IvM_f18 (I := I16528) (A := A16528) hV16528), (IvM_f22 (I := I16528) (A := A16528) hV16528), (IvM_f23 (I := I16528) (A := A16528) hV16528), (IvM_f24 (I := I16528) (A := A16528) hV16528), (IvM_a11 (I := I16528) (A := A16528) hV16528), (IvM_a26 (I := I16528) (A := A16528) hV16528), (IvM_s8_0 (I := I16528) (A := A16528) hV16528), (IvM_s8_1 (I := I16528) (A := A16528) hV16528), (IvM_s10_0 (I := I16528) (A := A16528) hV16528), (IvM_s10_1 (I := I16528) (A := A16528) hV16528), (IvM_s17_0 (I := I16528) (A := A16528) hV16528), (IvM_s17_164 (I := I16528) (A := A16528) hV16528), (IvM_lv (I := I16528) (A := A16528) hV16528), (IvM_sd (I := I16528) (A := A16528) hV16528), (IvM_nq (I := I16528) (A := A16528) hV16528), (IvM_hr (I := I16528) (A := A16528) hV16528), (IvM_hh (I := I16528) (A := A16528) hV16528), trivial⟩, (by omega), (by omega), (by rw [show (I16528 8) = (I15258 8) from ((hI16528 8 rfl).trans (hI16495 8 rfl))] <;> omega), (show L16528 = L from (hL16528.trans (hL16495.trans hL15258))), hF, rfl, rfl⟩ dX12_tellSeries_107
                    replace hF := FE.neg hF c16536
                    exfalso; omega
                  replace hF := FE.neg hF c16535
                  exfalso; omega
              · skip
                replace hF := FE.neg hF c16500
                have f16549 := IvM_f4 hIv
                have f16550 := IvM_f6 hIv
                have f16551 := IvM_f8 hIv
                exact g_vret hk hR ⟨I16495, A16495, L16495, (show Md [4, 6, 7, 8, 9, 11, 12, 13] I I16495 from (Md.tr (Md.tr (Md.up Md.rf rfl) hI15258 rfl) hI16495 rfl)), (show Md [8, 9] A A16495 from (Md.tr (Md.tr Md.rf hA15258 rfl) hA16495 rfl)), hV16495, (by rw [show (I16495 4) = (I15258 4) from (hI16495 4 rfl)] <;> omega), (by omega), (by rw [show (I16495 8) = (I15258 8) from (hI16495 8 rfl)] <;> omega), (show L16495 = L from (hL16495.trans hL15258)), hF, rfl, rfl⟩ dX12_tellSeries_48
          replace hF := FE.neg hF c16438
          exfalso; omega
      · skip
        replace hF := FE.neg hF (fe_ne hC (by decide))
        show GW κ 2 0 0 (wM r g I15258 A15258 L15258) 9 [(0, .ref (r 0))] [.int 1]
        refine g_if_ne (tgt := 21) (a := 1) hk dX12_tellSeries_9 (by decide) rfl (fun _ => ?_) (fun z9 => absurd (show (1 : Int) ≠ (0 : Int) from by decide) z9)
        refine g_aload_n hk dX12_tellSeries_21 rfl ?_
        refine gM_r0_26 hk hin12 (List.mem_cons_of_mem _ (List.mem_append_left _ (List.mem_of_getElem? (i := 12) rfl))) dX12_tellSeries_22 ?_
        refine g_aload_n hk dX12_tellSeries_25 rfl ?_
        refine gM_i16 (v := (I 16)) hk hin12 (List.mem_cons_of_mem _ (List.mem_append_left _ (List.mem_of_getElem? (i := 13) rfl))) dX12_tellSeries_26 (hI15258 16 rfl) ?_
        have f16552 := IvM_f16 hIv
        by_cases c16553 : (I 16).toInt = 0
        · have ec16553 : (I 16) = 0 := Int32.toInt_inj.mp c16553
          replace hF := FE.pos hF c16553
          rw [ec16553]
          show GW κ 2 0 0 (wM r g I15258 A15258 L15258) 29 [(0, .ref (r 0))] [.int 0, .ref (r 9)]
          refine lM_8 (v := (A15258 8 0)) hk (vp_in_iff.mpr ⟨by decide, by decide⟩) rfl dX12_tellSeries_29 ?_
          have f16554 := IvM_s8_0 hV15258
          refine g_sipush (v := 160) hk dX12_tellSeries_30 (by decide) ?_
          refine g_icmp_ne (tgt := 41) (a := (A15258 8 0).toInt) (b := 160) hk dX12_tellSeries_33 (by decide) rfl rfl (fun c16555 => ?_) (fun c16555 => ?_)
          · skip
            replace hF := FE.pos hF c16555
            refine g_aload_n hk dX12_tellSeries_41 rfl ?_
            refine gM_i6 (v := (I15258 6)) hk hin12 (List.mem_cons_of_mem _ (List.mem_append_left _ (List.mem_of_getElem? (i := 11) rfl))) dX12_tellSeries_42 rfl ?_
            refine g_if_le (tgt := 49) (a := (I15258 6).toInt) hk dX12_tellSeries_45 (by decide) rfl (fun c16556 => ?_) (fun c16556 => ?_)
            · skip
              replace hF := FE.pos hF c16556
              refine g_aload_n hk dX12_tellSeries_49 rfl ?_
              refine g_bipush (v := 26) hk dX12_tellSeries_50 (by decide) ?_
              have k16557 : (26 : Int32).toInt = 26 := rfl
              refine g_callV (n := 1) hk (j125_X12_is l D zt r g I15258 A15258 L15258 26 hV15258) (SP.same _) (fun _ h => h) (gi_V (List.mem_cons_of_mem _ (List.mem_append_left _ (List.mem_of_getElem? (i := 5) rfl))) (List.mem_cons_of_mem _ (List.mem_append_left _ (List.mem_of_getElem? (i := 6) rfl))) (List.mem_cons_of_mem _ (List.mem_append_left _ (List.mem_of_getElem? (i := 7) rfl))) (List.mem_cons_of_mem _ (List.mem_append_left _ (List.mem_of_getElem? (i := 4) rfl))) (gi_sub (fun w h => (List.mem_cons_of_mem _ (List.mem_append_right _ (List.mem_append_right _ (List.mem_append_right _ (List.mem_append_left _ h)))))) zg_j125_X12_is)) rfl rfl rfl (by decide +kernel) ⟨Nat.le_of_ble_eq_true rfl, Nat.le_of_ble_eq_true rfl⟩ 0 rfl rfl rfl rfl (Nat.le_of_ble_eq_true rfl) ⟨Nat.le_of_ble_eq_true rfl, Nat.le_of_ble_eq_true rfl⟩ dX12_tellSeries_52 (fun v ty' w' hp hk' => ?_)
              rcases hp with ⟨c16558, hC, rfl, rfl⟩ | ⟨c16560, hC, rfl, rfl⟩
              · skip
                replace hF := FE.pos hF hC
                rw [show (A15258 2 (I15258 4).toNatClampNeg) = (A 2 (I15258 4).toNatClampNeg) from (congrFun (hA15258 2 rfl) _)] at c16558
                show GW κ 2 0 0 (wM r g I15258 A15258 L15258) 55 [(0, .ref (r 0))] [.int 0]
                refine g_istore_n (lv' := [(1, .int 0), (0, .ref (r 0))]) hk dX12_tellSeries_55 (by decide) rfl ?_
                refine g_iload_n hk dX12_tellSeries_56 rfl ?_
                refine g_if_eq (tgt := 64) (a := 0) hk dX12_tellSeries_57 (by decide) rfl (fun _ => ?_) (fun z9 => absurd (show (0 : Int) = (0 : Int) from by decide) z9)
                refine g_aload_n hk dX12_tellSeries_64 rfl ?_
                refine gM_r0_27 hk hin12 (List.mem_cons_of_mem _ (List.mem_append_left _ (List.mem_of_getElem? (i := 14) rfl))) dX12_tellSeries_65 ?_
                refine g_sipush (v := 160) hk dX12_tellSeries_68 (by decide) ?_
                refine g_aload_n hk dX12_tellSeries_71 rfl ?_
                refine gM_i16 (v := (I 16)) hk hin12 (List.mem_cons_of_mem _ (List.mem_append_left _ (List.mem_of_getElem? (i := 13) rfl))) dX12_tellSeries_72 (hI15258 16 rfl) ?_
                by_cases c16562 : (I 16).toInt = 0
                · have ec16562 : (I 16) = 0 := Int32.toInt_inj.mp c16562
                  replace hF := FE.pos hF c16562
                  rw [ec16562]
                  show GW κ 2 0 0 (wM r g I15258 A15258 L15258) 75 [(1, .int 0), (0, .ref (r 0))] [.int 0, .int 160, .ref (r 10)]
                  refine g_imul hk dX12_tellSeries_75 ?_
                  refine g_norm (v := 0) (by decide) ?_
                  refine g_aload_n hk dX12_tellSeries_76 rfl ?_
                  refine gM_r0_26 hk hin12 (List.mem_cons_of_mem _ (List.mem_append_left _ (List.mem_of_getElem? (i := 12) rfl))) dX12_tellSeries_77 ?_
                  refine g_aload_n hk dX12_tellSeries_80 rfl ?_
                  refine gM_i16 (v := (I 16)) hk hin12 (List.mem_cons_of_mem _ (List.mem_append_left _ (List.mem_of_getElem? (i := 13) rfl))) dX12_tellSeries_81 (hI15258 16 rfl) ?_
                  by_cases c16563 : (I 16).toInt = 0
                  · have ec16563 : (I 16) = 0 := Int32.toInt_inj.mp c16563
                    replace hF := FE.pos hF c16563
                    rw [ec16563]
                    show GW κ 2 0 0 (wM r g I15258 A15258 L15258) 84 [(1, .int 0), (0, .ref (r 0))] [.int 0, .ref (r 9), .int 0, .ref (r 10)]
                    refine lM_8 (v := (A15258 8 0)) hk (vp_in_iff.mpr ⟨by decide, by decide⟩) rfl dX12_tellSeries_84 ?_
                    refine g_iadd hk dX12_tellSeries_85 ?_
                    refine g_topi (fun y16564 ey16564 => ?_)
                    replace hF := FE.lt hF ey16564
                    have hy16564 : y16564.toInt = 0 + (A15258 8 0).toInt := i32_add ey16564 rfl rfl (by omega) (by omega)
                    refine g_iload_n hk dX12_tellSeries_86 rfl ?_
                    refine g_if_eq (tgt := 95) (a := 0) hk dX12_tellSeries_87 (by decide) rfl (fun _ => ?_) (fun z9 => absurd (show (0 : Int) = (0 : Int) from by decide) z9)
                    refine g_aload_n hk dX12_tellSeries_95 rfl ?_
                    refine g_callV (n := 0) hk (j132_X12_readingTold l D zt r g I15258 A15258 L15258  hV15258) (SP.same _) (fun _ h => h) (gi_V (List.mem_cons_of_mem _ (List.mem_append_left _ (List.mem_of_getElem? (i := 15) rfl))) (List.mem_cons_of_mem _ (List.mem_append_left _ (List.mem_of_getElem? (i := 16) rfl))) (List.mem_cons_of_mem _ (List.mem_append_left _ (List.mem_of_getElem? (i := 17) rfl))) (List.mem_cons_of_mem _ (List.mem_append_left _ (List.mem_of_getElem? (i := 4) rfl))) (gi_sub (fun w h => (List.mem_cons_of_mem _ (List.mem_append_right _ (List.mem_append_right _ (List.mem_append_right _ (List.mem_append_right _ (List.mem_append_right _ (List.mem_append_left _ h)))))))) zg_j132_X12_readingTold)) rfl rfl rfl (by decide +kernel) ⟨Nat.le_of_ble_eq_true rfl, Nat.le_of_ble_eq_true rfl⟩ 0 rfl rfl rfl rfl (Nat.le_of_ble_eq_true rfl) ⟨Nat.le_of_ble_eq_true rfl, Nat.le_of_ble_eq_true rfl⟩ dX12_tellSeries_96 (fun v ty' w' hp hk' => ?_)
                    obtain ⟨I16566, A16566, L16566, hI16566, hA16566, hV16566, y16565, r16567, r16568, r16569, r16570, hL16566, hC, rfl, rfl⟩ := hp
                    replace hF := FE.bdM hF hC
                    have f16571 := IvM_f4 hV16566
                    have f16572 := IvM_f6 hV16566
                    have f16573 := IvM_f8 hV16566
                    show GW κ 2 0 0 (wM r g I16566 A16566 L16566) 99 [(1, .int 0), (0, .ref (r 0))] [.int y16565, .int y16564, .ref (r 10)]
                    refine sM_9 (j := y16564.toNatClampNeg) hk (vp_in_iff.mpr ⟨by omega, by omega⟩) rfl dX12_tellSeries_99 ?_
                    refine g_aload_n hk dX12_tellSeries_100 rfl ?_
                    refine gM_i6 (v := (I16566 6)) hk hin12 (List.mem_cons_of_mem _ (List.mem_append_left _ (List.mem_of_getElem? (i := 11) rfl))) dX12_tellSeries_101 rfl ?_
                    refine g_if_le (tgt := 108) (a := (I16566 6).toInt) hk dX12_tellSeries_104 (by decide) rfl (fun c16574 => ?_) (fun c16574 => ?_)
                    · skip
                      replace hF := FE.pos hF c16574
                      refine g_aload_n hk dX12_tellSeries_108 rfl ?_
                      refine gM_r0_26 hk hin12 (List.mem_cons_of_mem _ (List.mem_append_left _ (List.mem_of_getElem? (i := 12) rfl))) dX12_tellSeries_109 ?_
                      refine g_aload_n hk dX12_tellSeries_112 rfl ?_
                      refine gM_i16 (v := (I 16)) hk hin12 (List.mem_cons_of_mem _ (List.mem_append_left _ (List.mem_of_getElem? (i := 13) rfl))) dX12_tellSeries_113 ((hI16566 16 rfl).trans (hI15258 16 rfl)) ?_
                      by_cases c16575 : (I 16).toInt = 0
                      · have ec16575 : (I 16) = 0 := Int32.toInt_inj.mp c16575
                        replace hF := FE.pos hF c16575
                        rw [ec16575]
                        show GW κ 2 0 0 (wM r g I16566 (up3 A16566 9 (y16564.toNatClampNeg) y16565) L16566) 116 [(1, .int 0), (0, .ref (r 0))] [.int 0, .ref (r 9)]
                        refine g_dup2 hk dX12_tellSeries_116 rfl rfl ?_
                        refine lM_8 (v := (A15258 8 0)) hk (vp_in_iff.mpr ⟨by decide, by decide⟩) (congrFun (hA16566 8 rfl) _) dX12_tellSeries_117 ?_
                        refine g_iconst (v := 1) hk dX12_tellSeries_118 (by decide) ?_
                        refine g_iadd hk dX12_tellSeries_119 ?_
                        refine g_topi (fun y16576 ey16576 => ?_)
                        replace hF := FE.lt hF ey16576
                        have hy16576 : y16576.toInt = (A15258 8 0).toInt + 1 := i32_add ey16576 rfl rfl (by omega) (by omega)
                        refine sM_8 (j := 0) hk (vp_in_iff.mpr ⟨by decide, by decide⟩) (by decide) dX12_tellSeries_120 ?_
                        have f16577 := IvM_s8_0 hV16566
                        have f16578 := IvM_s8_1 hV16566
                        refine g_aload_n hk dX12_tellSeries_121 rfl ?_
                        refine g_dup hk dX12_tellSeries_122 rfl ?_
                        refine gM_i11 (v := (I15258 11)) hk hin12 (List.mem_cons_of_mem _ (List.mem_append_left _ (List.mem_of_getElem? (i := 0) rfl))) dX12_tellSeries_123 (hI16566 11 rfl) ?_
                        refine g_iconst (v := 1) hk dX12_tellSeries_126 (by decide) ?_
                        have b16579l := Int32.le_toInt (I15258 11)
                        have b16579h := Int32.toInt_lt (I15258 11)
                        refine g_iadd hk dX12_tellSeries_127 ?_
                        refine g_topi (fun y16580 ey16580 => ?_)
                        replace hF := FE.lt hF ey16580
                        refine pM_i11 hk hin12 (List.mem_cons_of_mem _ (List.mem_append_left _ (List.mem_of_getElem? (i := 0) rfl))) dX12_tellSeries_128 ?_
                        refine g_goto (tgt := 5) hk dX12_tellSeries_131 (by decide) ?_
                        exact g_lv (List.forall_mem_cons.mpr ⟨List.mem_of_getElem? (i := 1) rfl, (fun _ h => absurd h List.not_mem_nil)⟩) (ih16295 (upd I16566 11 y16580) (up3 (up3 A16566 9 (y16564.toNatClampNeg) y16565) 8 0 y16576) L16566 (show Md [4, 6, 7, 8, 9, 11, 12, 13] (upd I 11 0) (upd I16566 11 y16580) from Md.tr hI15258 (show Md [4, 6, 7, 8, 9, 11, 12, 13] I15258 (upd I16566 11 y16580) from (Md.up (Md.tr Md.rf hI16566 rfl) rfl)) rfl) (show Md [8, 9] A (up3 (up3 A16566 9 (y16564.toNatClampNeg) y16565) 8 0 y16576) from Md.tr hA15258 (show Md [8, 9] A15258 (up3 (up3 A16566 9 (y16564.toNatClampNeg) y16565) 8 0 y16576) from (Md.up3 (Md.up3 (Md.tr Md.rf hA16566 rfl) rfl) rfl)) rfl) ⟨(IvM_f1 (I := I16566) (A := A16566) hV16566), (IvM_f2 (I := I16566) (A := A16566) hV16566), (IvM_f3 (I := I16566) (A := A16566) hV16566), (IvM_f4 (I := I16566) (A := A16566) hV16566), (IvM_f6 (I := I16566) (A := A16566) hV16566), (IvM_f8 (I := I16566) (A := A16566) hV16566), (IvM_f15 (I := I16566) (A := A16566) hV16566), (IvM_f16 (I := I16566) (A := A16566) hV16566), (IvM_f17 (I := I16566) (A := A16566) hV16566), (IvM_f18 (I := I16566) (A := A16566) hV16566), (IvM_f22 (I := I16566) (A := A16566) hV16566), (IvM_f23 (I := I16566) (A := A16566) hV16566), (IvM_f24 (I := I16566) (A := A16566) hV16566), (IvM_a11 (I := I16566) (A := A16566) hV16566), (IvM_a26 (I := I16566) (A := A16566) hV16566), (show 0 ≤ ((up3 (up3 A16566 9 (y16564.toNatClampNeg) y16565) 8 0 y16576) 8 0).toInt ∧ ((up3 (up3 A16566 9 (y16564.toNatClampNeg) y16565) 8 0 y16576) 8 0).toInt ≤ 160 from by rw [show (up3 (up3 A16566 9 (y16564.toNatClampNeg) y16565) 8 0 y16576) 8 0 = y16576 from rfl]; exact ⟨by omega, by omega⟩), (show 0 ≤ ((up3 (up3 A16566 9 (y16564.toNatClampNeg) y16565) 8 0 y16576) 8 1).toInt ∧ ((up3 (up3 A16566 9 (y16564.toNatClampNeg) y16565) 8 0 y16576) 8 1).toInt ≤ 160 from by rw [show (up3 (up3 A16566 9 (y16564.toNatClampNeg) y16565) 8 0 y16576) 8 1 = (A16566 8 1) from rfl]; exact (IvM_s8_1 (I := I16566) (A := A16566) hV16566)), (IvM_s10_0 (I := I16566) (A := A16566) hV16566), (IvM_s10_1 (I := I16566) (A := A16566) hV16566), (IvM_s17_0 (I := I16566) (A := A16566) hV16566), (IvM_s17_164 (I := I16566) (A := A16566) hV16566), (IvM_lv (I := I16566) (A := A16566) hV16566), (IvM_sd (I := I16566) (A := A16566) hV16566), (IvM_nq (I := I16566) (A := A16566) hV16566), (IvM_hr (I := I16566) (A := A16566) hV16566), (IvM_hh (I := I16566) (A := A16566) hV16566), trivial⟩ (show L16566 = L from (hL16566.trans hL15258)) (by first | (rw [show ((upd I16566 11 y16580) 4) = (I16566 4) from rfl] <;> omega) | omega) (by first | (rw [show ((upd I16566 11 y16580) 6) = (I16566 6) from rfl] <;> omega) | omega) (by first | (rw [show ((upd I16566 11 y16580) 8) = (I16566 8) from rfl] <;> omega) | omega) (by first | (rw [show ((upd I16566 11 y16580) 4) = (I16566 4) from rfl] <;> omega) | omega) (by omega) hF)
                      replace hF := FE.neg hF c16575
                      exfalso; omega
                    · skip
                      replace hF := FE.neg hF c16574
                      have f16581 := IvM_f4 hIv
                      have f16582 := IvM_f6 hIv
                      have f16583 := IvM_f8 hIv
                      exact g_vret hk hR ⟨I16566, (up3 A16566 9 (y16564.toNatClampNeg) y16565), L16566, (show Md [4, 6, 7, 8, 9, 11, 12, 13] I I16566 from (Md.tr (Md.tr (Md.up Md.rf rfl) hI15258 rfl) hI16566 rfl)), (show Md [8, 9] A (up3 A16566 9 (y16564.toNatClampNeg) y16565) from (Md.up3 (Md.tr (Md.tr Md.rf hA15258 rfl) hA16566 rfl) rfl)), ⟨(IvM_f1 (I := I16566) (A := A16566) hV16566), (IvM_f2 (I := I16566) (A := A16566) hV16566), (IvM_f3 (I := I16566) (A := A16566) hV16566), (IvM_f4 (I := I16566) (A := A16566) hV16566), (IvM_f6 (I := I16566) (A := A16566) hV16566), (IvM_f8 (I := I16566) (A := A16566) hV16566), (IvM_f15 (I := I16566) (A := A16566) hV16566), (IvM_f16 (I := I16566) (A := A16566) hV16566), (IvM_f17 (I := I16566) (A := A16566) hV16566), (IvM_f18 (I := I16566) (A := A16566) hV16566), (IvM_f22 (I := I16566) (A := A16566) hV16566), (IvM_f23 (I := I16566) (A := A16566) hV16566), (IvM_f24 (I := I16566) (A := A16566) hV16566), (IvM_a11 (I := I16566) (A := A16566) hV16566), (IvM_a26 (I := I16566) (A := A16566) hV16566), (IvM_s8_0 (I := I16566) (A := A16566) hV16566), (IvM_s8_1 (I := I16566) (A := A16566) hV16566), (IvM_s10_0 (I := I16566) (A := A16566) hV16566), (IvM_s10_1 (I := I16566) (A := A16566) hV16566), (IvM_s17_0 (I := I16566) (A := A16566) hV16566), (IvM_s17_164 (I := I16566) (A := A16566) hV16566), (IvM_lv (I := I16566) (A := A16566) hV16566), (IvM_sd (I := I16566) (A := A16566) hV16566), (IvM_nq (I := I16566) (A := A16566) hV16566), (IvM_hr (I := I16566) (A := A16566) hV16566), (IvM_hh (I := I16566) (A := A16566) hV16566), trivial⟩, (by omega), (by omega), (by omega), (show L16566 = L from (hL16566.trans hL15258)), hF, rfl, rfl⟩ dX12_tellSeries_107
                  replace hF := FE.neg hF c16563
                  exfalso; omega
                replace hF := FE.neg hF c16562
                exfalso; omega
              · skip
                replace hF := FE.neg hF (fe_ne hC (by decide))
                rw [show (A15258 2 (I15258 4).toNatClampNeg) = (A 2 (I15258 4).toNatClampNeg) from (congrFun (hA15258 2 rfl) _)] at c16560
                show GW κ 2 0 0 (wM r g I15258 A15258 L15258) 55 [(0, .ref (r 0))] [.int 1]
                refine g_istore_n (lv' := [(1, .int 1), (0, .ref (r 0))]) hk dX12_tellSeries_55 (by decide) rfl ?_
                refine g_iload_n hk dX12_tellSeries_56 rfl ?_
                refine g_if_eq (tgt := 64) (a := 1) hk dX12_tellSeries_57 (by decide) rfl (fun z9 => absurd z9 (show ¬ ((1 : Int) = (0 : Int)) from by decide)) (fun _ => ?_)
                refine g_aload_n hk dX12_tellSeries_60 rfl ?_
                refine g_callV (n := 0) hk (j127_X12_goesOn l D zt r g I15258 A15258 L15258  hV15258) (SP.same _) (fun _ h => h) (gi_V (List.mem_cons_of_mem _ (List.mem_append_left _ (List.mem_of_getElem? (i := 18) rfl))) (List.mem_cons_of_mem _ (List.mem_append_left _ (List.mem_of_getElem? (i := 19) rfl))) (List.mem_cons_of_mem _ (List.mem_append_left _ (List.mem_of_getElem? (i := 20) rfl))) (List.mem_cons_of_mem _ (List.mem_append_left _ (List.mem_of_getElem? (i := 4) rfl))) (gi_sub (fun w h => (List.mem_cons_of_mem _ (List.mem_append_right _ (List.mem_append_right _ (List.mem_append_right _ (List.mem_append_right _ (List.mem_append_right _ (List.mem_append_right _ (List.mem_append_left _ h))))))))) zg_j127_X12_goesOn)) rfl rfl rfl (by decide +kernel) ⟨Nat.le_of_ble_eq_true rfl, Nat.le_of_ble_eq_true rfl⟩ 0 rfl rfl rfl rfl (Nat.le_of_ble_eq_true rfl) ⟨Nat.le_of_ble_eq_true rfl, Nat.le_of_ble_eq_true rfl⟩ dX12_tellSeries_61 (fun v ty' w' hp hk' => ?_)
                obtain ⟨I16585, A16585, L16585, hI16585, hA16585, hV16585, r16586, r16587, r16588, r16589, hL16585, hC, rfl, rfl⟩ := hp
                replace hF := FE.bdM hF hC
                have f16590 := IvM_f4 hV16585
                have f16591 := IvM_f6 hV16585
                rw [show (I16585 8) = (I15258 8) from (hI16585 8 rfl)] at r16588
                show GW κ 2 0 0 (wM r g I16585 A16585 L16585) 64 [(1, .int 1), (0, .ref (r 0))] []
                refine g_aload_n hk dX12_tellSeries_64 rfl ?_
                refine gM_r0_27 hk hin12 (List.mem_cons_of_mem _ (List.mem_append_left _ (List.mem_of_getElem? (i := 14) rfl))) dX12_tellSeries_65 ?_
                refine g_sipush (v := 160) hk dX12_tellSeries_68 (by decide) ?_
                refine g_aload_n hk dX12_tellSeries_71 rfl ?_
                refine gM_i16 (v := (I 16)) hk hin12 (List.mem_cons_of_mem _ (List.mem_append_left _ (List.mem_of_getElem? (i := 13) rfl))) dX12_tellSeries_72 ((hI16585 16 rfl).trans (hI15258 16 rfl)) ?_
                by_cases c16592 : (I 16).toInt = 0
                · have ec16592 : (I 16) = 0 := Int32.toInt_inj.mp c16592
                  replace hF := FE.pos hF c16592
                  rw [ec16592]
                  show GW κ 2 0 0 (wM r g I16585 A16585 L16585) 75 [(1, .int 1), (0, .ref (r 0))] [.int 0, .int 160, .ref (r 10)]
                  refine g_imul hk dX12_tellSeries_75 ?_
                  refine g_norm (v := 0) (by decide) ?_
                  refine g_aload_n hk dX12_tellSeries_76 rfl ?_
                  refine gM_r0_26 hk hin12 (List.mem_cons_of_mem _ (List.mem_append_left _ (List.mem_of_getElem? (i := 12) rfl))) dX12_tellSeries_77 ?_
                  refine g_aload_n hk dX12_tellSeries_80 rfl ?_
                  refine gM_i16 (v := (I 16)) hk hin12 (List.mem_cons_of_mem _ (List.mem_append_left _ (List.mem_of_getElem? (i := 13) rfl))) dX12_tellSeries_81 ((hI16585 16 rfl).trans (hI15258 16 rfl)) ?_
                  by_cases c16593 : (I 16).toInt = 0
                  · have ec16593 : (I 16) = 0 := Int32.toInt_inj.mp c16593
                    replace hF := FE.pos hF c16593
                    rw [ec16593]
                    show GW κ 2 0 0 (wM r g I16585 A16585 L16585) 84 [(1, .int 1), (0, .ref (r 0))] [.int 0, .ref (r 9), .int 0, .ref (r 10)]
                    refine lM_8 (v := (A15258 8 0)) hk (vp_in_iff.mpr ⟨by decide, by decide⟩) (congrFun (hA16585 8 rfl) _) dX12_tellSeries_84 ?_
                    refine g_iadd hk dX12_tellSeries_85 ?_
                    refine g_topi (fun y16594 ey16594 => ?_)
                    replace hF := FE.lt hF ey16594
                    have hy16594 : y16594.toInt = 0 + (A15258 8 0).toInt := i32_add ey16594 rfl rfl (by omega) (by omega)
                    refine g_iload_n hk dX12_tellSeries_86 rfl ?_
                    refine g_if_eq (tgt := 95) (a := 1) hk dX12_tellSeries_87 (by decide) rfl (fun z9 => absurd z9 (show ¬ ((1 : Int) = (0 : Int)) from by decide)) (fun _ => ?_)
                    refine g_ldc (v := 100000) hk (List.mem_cons_of_mem _ (List.mem_append_left _ (List.mem_of_getElem? (i := 21) rfl))) dX12_tellSeries_90 ?_
                    refine g_goto (tgt := 99) hk dX12_tellSeries_92 (by decide) ?_
                    have k16595 : (100000 : Int32).toInt = 100000 := rfl
                    refine sM_9 (j := y16594.toNatClampNeg) hk (vp_in_iff.mpr ⟨by omega, by omega⟩) rfl dX12_tellSeries_99 ?_
                    refine g_aload_n hk dX12_tellSeries_100 rfl ?_
                    refine gM_i6 (v := (I16585 6)) hk hin12 (List.mem_cons_of_mem _ (List.mem_append_left _ (List.mem_of_getElem? (i := 11) rfl))) dX12_tellSeries_101 rfl ?_
                    refine g_if_le (tgt := 108) (a := (I16585 6).toInt) hk dX12_tellSeries_104 (by decide) rfl (fun c16596 => ?_) (fun c16596 => ?_)
                    · skip
                      replace hF := FE.pos hF c16596
                      refine g_aload_n hk dX12_tellSeries_108 rfl ?_
                      refine gM_r0_26 hk hin12 (List.mem_cons_of_mem _ (List.mem_append_left _ (List.mem_of_getElem? (i := 12) rfl))) dX12_tellSeries_109 ?_
                      refine g_aload_n hk dX12_tellSeries_112 rfl ?_
                      refine gM_i16 (v := (I 16)) hk hin12 (List.mem_cons_of_mem _ (List.mem_append_left _ (List.mem_of_getElem? (i := 13) rfl))) dX12_tellSeries_113 ((hI16585 16 rfl).trans (hI15258 16 rfl)) ?_
                      by_cases c16597 : (I 16).toInt = 0
                      · have ec16597 : (I 16) = 0 := Int32.toInt_inj.mp c16597
                        replace hF := FE.pos hF c16597
                        rw [ec16597]
                        show GW κ 2 0 0 (wM r g I16585 (up3 A16585 9 (y16594.toNatClampNeg) 100000) L16585) 116 [(1, .int 1), (0, .ref (r 0))] [.int 0, .ref (r 9)]
                        refine g_dup2 hk dX12_tellSeries_116 rfl rfl ?_
                        refine lM_8 (v := (A15258 8 0)) hk (vp_in_iff.mpr ⟨by decide, by decide⟩) (congrFun (hA16585 8 rfl) _) dX12_tellSeries_117 ?_
                        refine g_iconst (v := 1) hk dX12_tellSeries_118 (by decide) ?_
                        refine g_iadd hk dX12_tellSeries_119 ?_
                        refine g_topi (fun y16598 ey16598 => ?_)
                        replace hF := FE.lt hF ey16598
                        have hy16598 : y16598.toInt = (A15258 8 0).toInt + 1 := i32_add ey16598 rfl rfl (by omega) (by omega)
                        refine sM_8 (j := 0) hk (vp_in_iff.mpr ⟨by decide, by decide⟩) (by decide) dX12_tellSeries_120 ?_
                        have f16599 := IvM_s8_0 hV16585
                        have f16600 := IvM_s8_1 hV16585
                        refine g_aload_n hk dX12_tellSeries_121 rfl ?_
                        refine g_dup hk dX12_tellSeries_122 rfl ?_
                        refine gM_i11 (v := (I15258 11)) hk hin12 (List.mem_cons_of_mem _ (List.mem_append_left _ (List.mem_of_getElem? (i := 0) rfl))) dX12_tellSeries_123 (hI16585 11 rfl) ?_
                        refine g_iconst (v := 1) hk dX12_tellSeries_126 (by decide) ?_
                        have b16601l := Int32.le_toInt (I15258 11)
                        have b16601h := Int32.toInt_lt (I15258 11)
                        refine g_iadd hk dX12_tellSeries_127 ?_
                        refine g_topi (fun y16602 ey16602 => ?_)
                        replace hF := FE.lt hF ey16602
                        refine pM_i11 hk hin12 (List.mem_cons_of_mem _ (List.mem_append_left _ (List.mem_of_getElem? (i := 0) rfl))) dX12_tellSeries_128 ?_
                        refine g_goto (tgt := 5) hk dX12_tellSeries_131 (by decide) ?_
                        exact g_lv (List.forall_mem_cons.mpr ⟨List.mem_of_getElem? (i := 1) rfl, (fun _ h => absurd h List.not_mem_nil)⟩) (ih16295 (upd I16585 11 y16602) (up3 (up3 A16585 9 (y16594.toNatClampNeg) 100000) 8 0 y16598) L16585 (show Md [4, 6, 7, 8, 9, 11, 12, 13] (upd I 11 0) (upd I16585 11 y16602) from Md.tr hI15258 (show Md [4, 6, 7, 8, 9, 11, 12, 13] I15258 (upd I16585 11 y16602) from (Md.up (Md.tr Md.rf hI16585 rfl) rfl)) rfl) (show Md [8, 9] A (up3 (up3 A16585 9 (y16594.toNatClampNeg) 100000) 8 0 y16598) from Md.tr hA15258 (show Md [8, 9] A15258 (up3 (up3 A16585 9 (y16594.toNatClampNeg) 100000) 8 0 y16598) from (Md.up3 (Md.up3 (Md.tr Md.rf hA16585 rfl) rfl) rfl)) rfl) ⟨(IvM_f1 (I := I16585) (A := A16585) hV16585), (IvM_f2 (I := I16585) (A := A16585) hV16585), (IvM_f3 (I := I16585) (A := A16585) hV16585), (IvM_f4 (I := I16585) (A := A16585) hV16585), (IvM_f6 (I := I16585) (A := A16585) hV16585), (IvM_f8 (I := I16585) (A := A16585) hV16585), (IvM_f15 (I := I16585) (A := A16585) hV16585), (IvM_f16 (I := I16585) (A := A16585) hV16585), (IvM_f17 (I := I16585) (A := A16585) hV16585), (IvM_f18 (I := I16585) (A := A16585) hV16585), (IvM_f22 (I := I16585) (A := A16585) hV16585), (IvM_f23 (I := I16585) (A := A16585) hV16585), (IvM_f24 (I := I16585) (A := A16585) hV16585), (IvM_a11 (I := I16585) (A := A16585) hV16585), (IvM_a26 (I := I16585) (A := A16585) hV16585), (show 0 ≤ ((up3 (up3 A16585 9 (y16594.toNatClampNeg) 100000) 8 0 y16598) 8 0).toInt ∧ ((up3 (up3 A16585 9 (y16594.toNatClampNeg) 100000) 8 0 y16598) 8 0).toInt ≤ 160 from by rw [show (up3 (up3 A16585 9 (y16594.toNatClampNeg) 100000) 8 0 y16598) 8 0 = y16598 from rfl]; exact ⟨by omega, by omega⟩), (show 0 ≤ ((up3 (up3 A16585 9 (y16594.toNatClampNeg) 100000) 8 0 y16598) 8 1).toInt ∧ ((up3 (up3 A16585 9 (y16594.toNatClampNeg) 100000) 8 0 y16598) 8 1).toInt ≤ 160 from by rw [show (up3 (up3 A16585 9 (y16594.toNatClampNeg) 100000) 8 0 y16598) 8 1 = (A16585 8 1) from rfl]; exact (IvM_s8_1 (I := I16585) (A := A16585) hV16585)), (IvM_s10_0 (I := I16585) (A := A16585) hV16585), (IvM_s10_1 (I := I16585) (A := A16585) hV16585), (IvM_s17_0 (I := I16585) (A := A16585) hV16585), (IvM_s17_164 (I := I16585) (A := A16585) hV16585), (IvM_lv (I := I16585) (A := A16585) hV16585), (IvM_sd (I := I16585) (A := A16585) hV16585), (IvM_nq (I := I16585) (A := A16585) hV16585), (IvM_hr (I := I16585) (A := A16585) hV16585), (IvM_hh (I := I16585) (A := A16585) hV16585), trivial⟩ (show L16585 = L from (hL16585.trans hL15258)) (by first | (rw [show ((upd I16585 11 y16602) 4) = (I16585 4) from rfl] <;> omega) | omega) (by first | (rw [show ((upd I16585 11 y16602) 6) = (I16585 6) from rfl] <;> omega) | omega) (by first | (rw [show ((upd I16585 11 y16602) 8) = (I15258 8) from (hI16585 8 rfl)] <;> omega) | omega) (by first | (rw [show ((upd I16585 11 y16602) 4) = (I16585 4) from rfl] <;> omega) | omega) (by omega) hF)
                      replace hF := FE.neg hF c16597
                      exfalso; omega
                    · skip
                      replace hF := FE.neg hF c16596
                      have f16603 := IvM_f4 hIv
                      have f16604 := IvM_f6 hIv
                      have f16605 := IvM_f8 hIv
                      exact g_vret hk hR ⟨I16585, (up3 A16585 9 (y16594.toNatClampNeg) 100000), L16585, (show Md [4, 6, 7, 8, 9, 11, 12, 13] I I16585 from (Md.tr (Md.tr (Md.up Md.rf rfl) hI15258 rfl) hI16585 rfl)), (show Md [8, 9] A (up3 A16585 9 (y16594.toNatClampNeg) 100000) from (Md.up3 (Md.tr (Md.tr Md.rf hA15258 rfl) hA16585 rfl) rfl)), ⟨(IvM_f1 (I := I16585) (A := A16585) hV16585), (IvM_f2 (I := I16585) (A := A16585) hV16585), (IvM_f3 (I := I16585) (A := A16585) hV16585), (IvM_f4 (I := I16585) (A := A16585) hV16585), (IvM_f6 (I := I16585) (A := A16585) hV16585), (IvM_f8 (I := I16585) (A := A16585) hV16585), (IvM_f15 (I := I16585) (A := A16585) hV16585), (IvM_f16 (I := I16585) (A := A16585) hV16585), (IvM_f17 (I := I16585) (A := A16585) hV16585), (IvM_f18 (I := I16585) (A := A16585) hV16585), (IvM_f22 (I := I16585) (A := A16585) hV16585), (IvM_f23 (I := I16585) (A := A16585) hV16585), (IvM_f24 (I := I16585) (A := A16585) hV16585), (IvM_a11 (I := I16585) (A := A16585) hV16585), (IvM_a26 (I := I16585) (A := A16585) hV16585), (IvM_s8_0 (I := I16585) (A := A16585) hV16585), (IvM_s8_1 (I := I16585) (A := A16585) hV16585), (IvM_s10_0 (I := I16585) (A := A16585) hV16585), (IvM_s10_1 (I := I16585) (A := A16585) hV16585), (IvM_s17_0 (I := I16585) (A := A16585) hV16585), (IvM_s17_164 (I := I16585) (A := A16585) hV16585), (IvM_lv (I := I16585) (A := A16585) hV16585), (IvM_sd (I := I16585) (A := A16585) hV16585), (IvM_nq (I := I16585) (A := A16585) hV16585), (IvM_hr (I := I16585) (A := A16585) hV16585), (IvM_hh (I := I16585) (A := A16585) hV16585), trivial⟩, (by omega), (by omega), (by rw [show (I16585 8) = (I15258 8) from (hI16585 8 rfl)] <;> omega), (show L16585 = L from (hL16585.trans hL15258)), hF, rfl, rfl⟩ dX12_tellSeries_107
                  replace hF := FE.neg hF c16593
                  exfalso; omega
                replace hF := FE.neg hF c16592
                exfalso; omega
            · skip
              replace hF := FE.neg hF c16556
              have f16606 := IvM_f4 hIv
              have f16607 := IvM_f6 hIv
              have f16608 := IvM_f8 hIv
              exact g_vret hk hR ⟨I15258, A15258, L15258, (show Md [4, 6, 7, 8, 9, 11, 12, 13] I I15258 from (Md.tr (Md.up Md.rf rfl) hI15258 rfl)), (show Md [8, 9] A A15258 from (Md.tr Md.rf hA15258 rfl)), hV15258, (by omega), (by omega), (by omega), (show L15258 = L from hL15258), hF, rfl, rfl⟩ dX12_tellSeries_48
          · skip
            replace hF := FE.neg hF c16555
            refine g_aload_n hk dX12_tellSeries_36 rfl ?_
            refine g_iconst (v := 2) hk dX12_tellSeries_37 (by decide) ?_
            have k16609 : (2 : Int32).toInt = 2 := rfl
            refine g_callV (n := 1) hk (j128_X12_fail l D zt r g I15258 A15258 L15258 2 hV15258 (by decide) (by decide)) (SP.same _) (fun _ h => h) (gi_V (List.mem_cons_of_mem _ (List.mem_append_left _ (List.mem_of_getElem? (i := 22) rfl))) (List.mem_cons_of_mem _ (List.mem_append_left _ (List.mem_of_getElem? (i := 23) rfl))) (List.mem_cons_of_mem _ (List.mem_append_left _ (List.mem_of_getElem? (i := 24) rfl))) (List.mem_cons_of_mem _ (List.mem_append_left _ (List.mem_of_getElem? (i := 4) rfl))) (gi_sub (fun w h => (List.mem_cons_of_mem _ (List.mem_append_right _ (List.mem_append_right _ (List.mem_append_right _ (List.mem_append_right _ (List.mem_append_right _ (List.mem_append_right _ (List.mem_append_right _ (List.mem_append_left _ h)))))))))) zg_j128_X12_fail)) rfl rfl rfl (by decide +kernel) ⟨Nat.le_of_ble_eq_true rfl, Nat.le_of_ble_eq_true rfl⟩ 0 rfl rfl rfl rfl (Nat.le_of_ble_eq_true rfl) ⟨Nat.le_of_ble_eq_true rfl, Nat.le_of_ble_eq_true rfl⟩ dX12_tellSeries_38 (fun v ty' w' hp hk' => ?_)
            obtain ⟨I16611, A16611, L16611, hI16611, hA16611, hV16611, r16612, r16613, r16614, hL16611, hC, rfl, rfl⟩ := hp
            replace hF := FE.bdM hF hC
            have f16615 := IvM_f6 hV16611
            rw [show (I16611 8) = (I15258 8) from (hI16611 8 rfl)] at r16613
            show GW κ 2 0 0 (wM r g I16611 A16611 L16611) 41 [(0, .ref (r 0))] []
            refine g_aload_n hk dX12_tellSeries_41 rfl ?_
            refine gM_i6 (v := (I16611 6)) hk hin12 (List.mem_cons_of_mem _ (List.mem_append_left _ (List.mem_of_getElem? (i := 11) rfl))) dX12_tellSeries_42 rfl ?_
            refine g_if_le (tgt := 49) (a := (I16611 6).toInt) hk dX12_tellSeries_45 (by decide) rfl (fun c16616 => ?_) (fun c16616 => ?_)
            · skip
              replace hF := FE.pos hF c16616
              refine g_aload_n hk dX12_tellSeries_49 rfl ?_
              refine g_bipush (v := 26) hk dX12_tellSeries_50 (by decide) ?_
              have k16617 : (26 : Int32).toInt = 26 := rfl
              refine g_callV (n := 1) hk (j125_X12_is l D zt r g I16611 A16611 L16611 26 hV16611) (SP.same _) (fun _ h => h) (gi_V (List.mem_cons_of_mem _ (List.mem_append_left _ (List.mem_of_getElem? (i := 5) rfl))) (List.mem_cons_of_mem _ (List.mem_append_left _ (List.mem_of_getElem? (i := 6) rfl))) (List.mem_cons_of_mem _ (List.mem_append_left _ (List.mem_of_getElem? (i := 7) rfl))) (List.mem_cons_of_mem _ (List.mem_append_left _ (List.mem_of_getElem? (i := 4) rfl))) (gi_sub (fun w h => (List.mem_cons_of_mem _ (List.mem_append_right _ (List.mem_append_right _ (List.mem_append_right _ (List.mem_append_left _ h)))))) zg_j125_X12_is)) rfl rfl rfl (by decide +kernel) ⟨Nat.le_of_ble_eq_true rfl, Nat.le_of_ble_eq_true rfl⟩ 0 rfl rfl rfl rfl (Nat.le_of_ble_eq_true rfl) ⟨Nat.le_of_ble_eq_true rfl, Nat.le_of_ble_eq_true rfl⟩ dX12_tellSeries_52 (fun v ty' w' hp hk' => ?_)
              rcases hp with ⟨c16618, hC, rfl, rfl⟩ | ⟨c16620, hC, rfl, rfl⟩
              · skip
                replace hF := FE.pos hF hC
                rw [show (A16611 2 (I16611 4).toNatClampNeg) = (A 2 (I15258 4).toNatClampNeg) from (by rw [show I16611 4 = (I15258 4) from (hI16611 4 rfl)]; exact ((congrFun (hA16611 2 rfl) _).trans (congrFun (hA15258 2 rfl) _)))] at c16618
                show GW κ 2 0 0 (wM r g I16611 A16611 L16611) 55 [(0, .ref (r 0))] [.int 0]
                refine g_istore_n (lv' := [(1, .int 0), (0, .ref (r 0))]) hk dX12_tellSeries_55 (by decide) rfl ?_
                refine g_iload_n hk dX12_tellSeries_56 rfl ?_
                refine g_if_eq (tgt := 64) (a := 0) hk dX12_tellSeries_57 (by decide) rfl (fun _ => ?_) (fun z9 => absurd (show (0 : Int) = (0 : Int) from by decide) z9)
                refine g_aload_n hk dX12_tellSeries_64 rfl ?_
                refine gM_r0_27 hk hin12 (List.mem_cons_of_mem _ (List.mem_append_left _ (List.mem_of_getElem? (i := 14) rfl))) dX12_tellSeries_65 ?_
                refine g_sipush (v := 160) hk dX12_tellSeries_68 (by decide) ?_
                refine g_aload_n hk dX12_tellSeries_71 rfl ?_
                refine gM_i16 (v := (I 16)) hk hin12 (List.mem_cons_of_mem _ (List.mem_append_left _ (List.mem_of_getElem? (i := 13) rfl))) dX12_tellSeries_72 ((hI16611 16 rfl).trans (hI15258 16 rfl)) ?_
                by_cases c16622 : (I 16).toInt = 0
                · have ec16622 : (I 16) = 0 := Int32.toInt_inj.mp c16622
                  replace hF := FE.pos hF c16622
                  rw [ec16622]
                  show GW κ 2 0 0 (wM r g I16611 A16611 L16611) 75 [(1, .int 0), (0, .ref (r 0))] [.int 0, .int 160, .ref (r 10)]
                  refine g_imul hk dX12_tellSeries_75 ?_
                  refine g_norm (v := 0) (by decide) ?_
                  refine g_aload_n hk dX12_tellSeries_76 rfl ?_
                  refine gM_r0_26 hk hin12 (List.mem_cons_of_mem _ (List.mem_append_left _ (List.mem_of_getElem? (i := 12) rfl))) dX12_tellSeries_77 ?_
                  refine g_aload_n hk dX12_tellSeries_80 rfl ?_
                  refine gM_i16 (v := (I 16)) hk hin12 (List.mem_cons_of_mem _ (List.mem_append_left _ (List.mem_of_getElem? (i := 13) rfl))) dX12_tellSeries_81 ((hI16611 16 rfl).trans (hI15258 16 rfl)) ?_
                  by_cases c16623 : (I 16).toInt = 0
                  · have ec16623 : (I 16) = 0 := Int32.toInt_inj.mp c16623
                    replace hF := FE.pos hF c16623
                    rw [ec16623]
                    show GW κ 2 0 0 (wM r g I16611 A16611 L16611) 84 [(1, .int 0), (0, .ref (r 0))] [.int 0, .ref (r 9), .int 0, .ref (r 10)]
                    refine lM_8 (v := (A15258 8 0)) hk (vp_in_iff.mpr ⟨by decide, by decide⟩) (congrFun (hA16611 8 rfl) _) dX12_tellSeries_84 ?_
                    refine g_iadd hk dX12_tellSeries_85 ?_
                    refine g_topi (fun y16624 ey16624 => ?_)
                    replace hF := FE.lt hF ey16624
                    have hy16624 : y16624.toInt = 0 + (A15258 8 0).toInt := i32_add ey16624 rfl rfl (by omega) (by omega)
                    refine g_iload_n hk dX12_tellSeries_86 rfl ?_
                    refine g_if_eq (tgt := 95) (a := 0) hk dX12_tellSeries_87 (by decide) rfl (fun _ => ?_) (fun z9 => absurd (show (0 : Int) = (0 : Int) from by decide) z9)
                    refine g_aload_n hk dX12_tellSeries_95 rfl ?_
                    refine g_callV (n := 0) hk (j132_X12_readingTold l D zt r g I16611 A16611 L16611  hV16611) (SP.same _) (fun _ h => h) (gi_V (List.mem_cons_of_mem _ (List.mem_append_left _ (List.mem_of_getElem? (i := 15) rfl))) (List.mem_cons_of_mem _ (List.mem_append_left _ (List.mem_of_getElem? (i := 16) rfl))) (List.mem_cons_of_mem _ (List.mem_append_left _ (List.mem_of_getElem? (i := 17) rfl))) (List.mem_cons_of_mem _ (List.mem_append_left _ (List.mem_of_getElem? (i := 4) rfl))) (gi_sub (fun w h => (List.mem_cons_of_mem _ (List.mem_append_right _ (List.mem_append_right _ (List.mem_append_right _ (List.mem_append_right _ (List.mem_append_right _ (List.mem_append_left _ h)))))))) zg_j132_X12_readingTold)) rfl rfl rfl (by decide +kernel) ⟨Nat.le_of_ble_eq_true rfl, Nat.le_of_ble_eq_true rfl⟩ 0 rfl rfl rfl rfl (Nat.le_of_ble_eq_true rfl) ⟨Nat.le_of_ble_eq_true rfl, Nat.le_of_ble_eq_true rfl⟩ dX12_tellSeries_96 (fun v ty' w' hp hk' => ?_)
                    obtain ⟨I16626, A16626, L16626, hI16626, hA16626, hV16626, y16625, r16627, r16628, r16629, r16630, hL16626, hC, rfl, rfl⟩ := hp
                    replace hF := FE.bdM hF hC
                    have f16631 := IvM_f4 hV16626
                    rw [show (I16611 4) = (I15258 4) from (hI16611 4 rfl)] at r16627
                    have f16632 := IvM_f6 hV16626
                    have f16633 := IvM_f8 hV16626
                    rw [show (I16611 8) = (I15258 8) from (hI16611 8 rfl)] at r16629
                    rw [show (I16611 4) = (I15258 4) from (hI16611 4 rfl)] at r16630
                    show GW κ 2 0 0 (wM r g I16626 A16626 L16626) 99 [(1, .int 0), (0, .ref (r 0))] [.int y16625, .int y16624, .ref (r 10)]
                    refine sM_9 (j := y16624.toNatClampNeg) hk (vp_in_iff.mpr ⟨by omega, by omega⟩) rfl dX12_tellSeries_99 ?_
                    refine g_aload_n hk dX12_tellSeries_100 rfl ?_
                    refine gM_i6 (v := (I16626 6)) hk hin12 (List.mem_cons_of_mem _ (List.mem_append_left _ (List.mem_of_getElem? (i := 11) rfl))) dX12_tellSeries_101 rfl ?_
                    refine g_if_le (tgt := 108) (a := (I16626 6).toInt) hk dX12_tellSeries_104 (by decide) rfl (fun c16634 => ?_) (fun c16634 => ?_)
                    · skip
                      replace hF := FE.pos hF c16634
                      refine g_aload_n hk dX12_tellSeries_108 rfl ?_
                      refine gM_r0_26 hk hin12 (List.mem_cons_of_mem _ (List.mem_append_left _ (List.mem_of_getElem? (i := 12) rfl))) dX12_tellSeries_109 ?_
                      refine g_aload_n hk dX12_tellSeries_112 rfl ?_
                      refine gM_i16 (v := (I 16)) hk hin12 (List.mem_cons_of_mem _ (List.mem_append_left _ (List.mem_of_getElem? (i := 13) rfl))) dX12_tellSeries_113 ((hI16626 16 rfl).trans ((hI16611 16 rfl).trans (hI15258 16 rfl))) ?_
                      by_cases c16635 : (I 16).toInt = 0
                      · have ec16635 : (I 16) = 0 := Int32.toInt_inj.mp c16635
                        replace hF := FE.pos hF c16635
                        rw [ec16635]
                        show GW κ 2 0 0 (wM r g I16626 (up3 A16626 9 (y16624.toNatClampNeg) y16625) L16626) 116 [(1, .int 0), (0, .ref (r 0))] [.int 0, .ref (r 9)]
                        refine g_dup2 hk dX12_tellSeries_116 rfl rfl ?_
                        refine lM_8 (v := (A15258 8 0)) hk (vp_in_iff.mpr ⟨by decide, by decide⟩) ((congrFun (hA16626 8 rfl) _).trans (congrFun (hA16611 8 rfl) _)) dX12_tellSeries_117 ?_
                        refine g_iconst (v := 1) hk dX12_tellSeries_118 (by decide) ?_
                        refine g_iadd hk dX12_tellSeries_119 ?_
                        refine g_topi (fun y16636 ey16636 => ?_)
                        replace hF := FE.lt hF ey16636
                        have hy16636 : y16636.toInt = (A15258 8 0).toInt + 1 := i32_add ey16636 rfl rfl (by omega) (by omega)
                        refine sM_8 (j := 0) hk (vp_in_iff.mpr ⟨by decide, by decide⟩) (by decide) dX12_tellSeries_120 ?_
                        have f16637 := IvM_s8_0 hV16626
                        have f16638 := IvM_s8_1 hV16626
                        refine g_aload_n hk dX12_tellSeries_121 rfl ?_
                        refine g_dup hk dX12_tellSeries_122 rfl ?_
                        refine gM_i11 (v := (I15258 11)) hk hin12 (List.mem_cons_of_mem _ (List.mem_append_left _ (List.mem_of_getElem? (i := 0) rfl))) dX12_tellSeries_123 ((hI16626 11 rfl).trans (hI16611 11 rfl)) ?_
                        refine g_iconst (v := 1) hk dX12_tellSeries_126 (by decide) ?_
                        have b16639l := Int32.le_toInt (I15258 11)
                        have b16639h := Int32.toInt_lt (I15258 11)
                        refine g_iadd hk dX12_tellSeries_127 ?_
                        refine g_topi (fun y16640 ey16640 => ?_)
                        replace hF := FE.lt hF ey16640
                        refine pM_i11 hk hin12 (List.mem_cons_of_mem _ (List.mem_append_left _ (List.mem_of_getElem? (i := 0) rfl))) dX12_tellSeries_128 ?_
                        refine g_goto (tgt := 5) hk dX12_tellSeries_131 (by decide) ?_
                        exact g_lv (List.forall_mem_cons.mpr ⟨List.mem_of_getElem? (i := 1) rfl, (fun _ h => absurd h List.not_mem_nil)⟩) (ih16295 (upd I16626 11 y16640) (up3 (up3 A16626 9 (y16624.toNatClampNeg) y16625) 8 0 y16636) L16626 (show Md [4, 6, 7, 8, 9, 11, 12, 13] (upd I 11 0) (upd I16626 11 y16640) from Md.tr hI15258 (show Md [4, 6, 7, 8, 9, 11, 12, 13] I15258 (upd I16626 11 y16640) from (Md.up (Md.tr (Md.tr Md.rf hI16611 rfl) hI16626 rfl) rfl)) rfl) (show Md [8, 9] A (up3 (up3 A16626 9 (y16624.toNatClampNeg) y16625) 8 0 y16636) from Md.tr hA15258 (show Md [8, 9] A15258 (up3 (up3 A16626 9 (y16624.toNatClampNeg) y16625) 8 0 y16636) from (Md.up3 (Md.up3 (Md.tr (Md.tr Md.rf hA16611 rfl) hA16626 rfl) rfl) rfl)) rfl) ⟨(IvM_f1 (I := I16626) (A := A16626) hV16626), (IvM_f2 (I := I16626) (A := A16626) hV16626), (IvM_f3 (I := I16626) (A := A16626) hV16626), (IvM_f4 (I := I16626) (A := A16626) hV16626), (IvM_f6 (I := I16626) (A := A16626) hV16626), (IvM_f8 (I := I16626) (A := A16626) hV16626), (IvM_f15 (I := I16626) (A := A16626) hV16626), (IvM_f16 (I := I16626) (A := A16626) hV16626), (IvM_f17 (I := I16626) (A := A16626) hV16626), (IvM_f18 (I := I16626) (A := A16626) hV16626), (IvM_f22 (I := I16626) (A := A16626) hV16626), (IvM_f23 (I := I16626) (A := A16626) hV16626), (IvM_f24 (I := I16626) (A := A16626) hV16626), (IvM_a11 (I := I16626) (A := A16626) hV16626), (IvM_a26 (I := I16626) (A := A16626) hV16626), (show 0 ≤ ((up3 (up3 A16626 9 (y16624.toNatClampNeg) y16625) 8 0 y16636) 8 0).toInt ∧ ((up3 (up3 A16626 9 (y16624.toNatClampNeg) y16625) 8 0 y16636) 8 0).toInt ≤ 160 from by rw [show (up3 (up3 A16626 9 (y16624.toNatClampNeg) y16625) 8 0 y16636) 8 0 = y16636 from rfl]; exact ⟨by omega, by omega⟩), (show 0 ≤ ((up3 (up3 A16626 9 (y16624.toNatClampNeg) y16625) 8 0 y16636) 8 1).toInt ∧ ((up3 (up3 A16626 9 (y16624.toNatClampNeg) y16625) 8 0 y16636) 8 1).toInt ≤ 160 from by rw [show (up3 (up3 A16626 9 (y16624.toNatClampNeg) y16625) 8 0 y16636) 8 1 = (A16626 8 1) from rfl]; exact (IvM_s8_1 (I := I16626) (A := A16626) hV16626)), (IvM_s10_0 (I := I16626) (A := A16626) hV16626), (IvM_s10_1 (I := I16626) (A := A16626) hV16626), (IvM_s17_0 (I := I16626) (A := A16626) hV16626), (IvM_s17_164 (I := I16626) (A := A16626) hV16626), (IvM_lv (I := I16626) (A := A16626) hV16626), (IvM_sd (I := I16626) (A := A16626) hV16626), (IvM_nq (I := I16626) (A := A16626) hV16626), (IvM_hr (I := I16626) (A := A16626) hV16626), (IvM_hh (I := I16626) (A := A16626) hV16626), trivial⟩ (show L16626 = L from ((hL16626.trans hL16611).trans hL15258)) (by first | (rw [show ((upd I16626 11 y16640) 4) = (I16626 4) from rfl] <;> omega) | omega) (by first | (rw [show ((upd I16626 11 y16640) 6) = (I16626 6) from rfl] <;> omega) | omega) (by first | (rw [show ((upd I16626 11 y16640) 8) = (I16626 8) from rfl] <;> omega) | omega) (by first | (rw [show ((upd I16626 11 y16640) 4) = (I16626 4) from rfl] <;> omega) | omega) (by omega) hF)
                      replace hF := FE.neg hF c16635
                      exfalso; omega
                    · skip
                      replace hF := FE.neg hF c16634
                      have f16641 := IvM_f4 hIv
                      have f16642 := IvM_f6 hIv
                      have f16643 := IvM_f8 hIv
                      exact g_vret hk hR ⟨I16626, (up3 A16626 9 (y16624.toNatClampNeg) y16625), L16626, (show Md [4, 6, 7, 8, 9, 11, 12, 13] I I16626 from (Md.tr (Md.tr (Md.tr (Md.up Md.rf rfl) hI15258 rfl) hI16611 rfl) hI16626 rfl)), (show Md [8, 9] A (up3 A16626 9 (y16624.toNatClampNeg) y16625) from (Md.up3 (Md.tr (Md.tr (Md.tr Md.rf hA15258 rfl) hA16611 rfl) hA16626 rfl) rfl)), ⟨(IvM_f1 (I := I16626) (A := A16626) hV16626), (IvM_f2 (I := I16626) (A := A16626) hV16626), (IvM_f3 (I := I16626) (A := A16626) hV16626), (IvM_f4 (I := I16626) (A := A16626) hV16626), (IvM_f6 (I := I16626) (A := A16626) hV16626), (IvM_f8 (I := I16626) (A := A16626) hV16626), (IvM_f15 (I := I16626) (A := A16626) hV16626), (IvM_f16 (I := I16626) (A := A16626) hV16626), (IvM_f17 (I := I16626) (A := A16626) hV16626), (IvM_f18 (I := I16626) (A := A16626) hV16626), (IvM_f22 (I := I16626) (A := A16626) hV16626), (IvM_f23 (I := I16626) (A := A16626) hV16626), (IvM_f24 (I := I16626) (A := A16626) hV16626), (IvM_a11 (I := I16626) (A := A16626) hV16626), (IvM_a26 (I := I16626) (A := A16626) hV16626), (IvM_s8_0 (I := I16626) (A := A16626) hV16626), (IvM_s8_1 (I := I16626) (A := A16626) hV16626), (IvM_s10_0 (I := I16626) (A := A16626) hV16626), (IvM_s10_1 (I := I16626) (A := A16626) hV16626), (IvM_s17_0 (I := I16626) (A := A16626) hV16626), (IvM_s17_164 (I := I16626) (A := A16626) hV16626), (IvM_lv (I := I16626) (A := A16626) hV16626), (IvM_sd (I := I16626) (A := A16626) hV16626), (IvM_nq (I := I16626) (A := A16626) hV16626), (IvM_hr (I := I16626) (A := A16626) hV16626), (IvM_hh (I := I16626) (A := A16626) hV16626), trivial⟩, (by omega), (by omega), (by omega), (show L16626 = L from (hL16626.trans (hL16611.trans hL15258))), hF, rfl, rfl⟩ dX12_tellSeries_107
                  replace hF := FE.neg hF c16623
                  exfalso; omega
                replace hF := FE.neg hF c16622
                exfalso; omega
              · skip
                replace hF := FE.neg hF (fe_ne hC (by decide))
                rw [show (A16611 2 (I16611 4).toNatClampNeg) = (A 2 (I15258 4).toNatClampNeg) from (by rw [show I16611 4 = (I15258 4) from (hI16611 4 rfl)]; exact ((congrFun (hA16611 2 rfl) _).trans (congrFun (hA15258 2 rfl) _)))] at c16620
                show GW κ 2 0 0 (wM r g I16611 A16611 L16611) 55 [(0, .ref (r 0))] [.int 1]
                refine g_istore_n (lv' := [(1, .int 1), (0, .ref (r 0))]) hk dX12_tellSeries_55 (by decide) rfl ?_
                refine g_iload_n hk dX12_tellSeries_56 rfl ?_
                refine g_if_eq (tgt := 64) (a := 1) hk dX12_tellSeries_57 (by decide) rfl (fun z9 => absurd z9 (show ¬ ((1 : Int) = (0 : Int)) from by decide)) (fun _ => ?_)
                refine g_aload_n hk dX12_tellSeries_60 rfl ?_
                refine g_callV (n := 0) hk (j127_X12_goesOn l D zt r g I16611 A16611 L16611  hV16611) (SP.same _) (fun _ h => h) (gi_V (List.mem_cons_of_mem _ (List.mem_append_left _ (List.mem_of_getElem? (i := 18) rfl))) (List.mem_cons_of_mem _ (List.mem_append_left _ (List.mem_of_getElem? (i := 19) rfl))) (List.mem_cons_of_mem _ (List.mem_append_left _ (List.mem_of_getElem? (i := 20) rfl))) (List.mem_cons_of_mem _ (List.mem_append_left _ (List.mem_of_getElem? (i := 4) rfl))) (gi_sub (fun w h => (List.mem_cons_of_mem _ (List.mem_append_right _ (List.mem_append_right _ (List.mem_append_right _ (List.mem_append_right _ (List.mem_append_right _ (List.mem_append_right _ (List.mem_append_left _ h))))))))) zg_j127_X12_goesOn)) rfl rfl rfl (by decide +kernel) ⟨Nat.le_of_ble_eq_true rfl, Nat.le_of_ble_eq_true rfl⟩ 0 rfl rfl rfl rfl (Nat.le_of_ble_eq_true rfl) ⟨Nat.le_of_ble_eq_true rfl, Nat.le_of_ble_eq_true rfl⟩ dX12_tellSeries_61 (fun v ty' w' hp hk' => ?_)
                obtain ⟨I16645, A16645, L16645, hI16645, hA16645, hV16645, r16646, r16647, r16648, r16649, hL16645, hC, rfl, rfl⟩ := hp
                replace hF := FE.bdM hF hC
                have f16650 := IvM_f4 hV16645
                rw [show (I16611 4) = (I15258 4) from (hI16611 4 rfl)] at r16646
                have f16651 := IvM_f6 hV16645
                rw [show (I16611 8) = (I15258 8) from (hI16611 8 rfl), show (I16645 8) = (I15258 8) from ((hI16645 8 rfl).trans (hI16611 8 rfl))] at r16648
                rw [show (I16611 4) = (I15258 4) from (hI16611 4 rfl)] at r16649
                show GW κ 2 0 0 (wM r g I16645 A16645 L16645) 64 [(1, .int 1), (0, .ref (r 0))] []
                refine g_aload_n hk dX12_tellSeries_64 rfl ?_
                refine gM_r0_27 hk hin12 (List.mem_cons_of_mem _ (List.mem_append_left _ (List.mem_of_getElem? (i := 14) rfl))) dX12_tellSeries_65 ?_
                refine g_sipush (v := 160) hk dX12_tellSeries_68 (by decide) ?_
                refine g_aload_n hk dX12_tellSeries_71 rfl ?_
                refine gM_i16 (v := (I 16)) hk hin12 (List.mem_cons_of_mem _ (List.mem_append_left _ (List.mem_of_getElem? (i := 13) rfl))) dX12_tellSeries_72 ((hI16645 16 rfl).trans ((hI16611 16 rfl).trans (hI15258 16 rfl))) ?_
                by_cases c16652 : (I 16).toInt = 0
                · have ec16652 : (I 16) = 0 := Int32.toInt_inj.mp c16652
                  replace hF := FE.pos hF c16652
                  rw [ec16652]
                  show GW κ 2 0 0 (wM r g I16645 A16645 L16645) 75 [(1, .int 1), (0, .ref (r 0))] [.int 0, .int 160, .ref (r 10)]
                  refine g_imul hk dX12_tellSeries_75 ?_
                  refine g_norm (v := 0) (by decide) ?_
                  refine g_aload_n hk dX12_tellSeries_76 rfl ?_
                  refine gM_r0_26 hk hin12 (List.mem_cons_of_mem _ (List.mem_append_left _ (List.mem_of_getElem? (i := 12) rfl))) dX12_tellSeries_77 ?_
                  refine g_aload_n hk dX12_tellSeries_80 rfl ?_
                  refine gM_i16 (v := (I 16)) hk hin12 (List.mem_cons_of_mem _ (List.mem_append_left _ (List.mem_of_getElem? (i := 13) rfl))) dX12_tellSeries_81 ((hI16645 16 rfl).trans ((hI16611 16 rfl).trans (hI15258 16 rfl))) ?_
                  by_cases c16653 : (I 16).toInt = 0
                  · have ec16653 : (I 16) = 0 := Int32.toInt_inj.mp c16653
                    replace hF := FE.pos hF c16653
                    rw [ec16653]
                    show GW κ 2 0 0 (wM r g I16645 A16645 L16645) 84 [(1, .int 1), (0, .ref (r 0))] [.int 0, .ref (r 9), .int 0, .ref (r 10)]
                    refine lM_8 (v := (A15258 8 0)) hk (vp_in_iff.mpr ⟨by decide, by decide⟩) ((congrFun (hA16645 8 rfl) _).trans (congrFun (hA16611 8 rfl) _)) dX12_tellSeries_84 ?_
                    refine g_iadd hk dX12_tellSeries_85 ?_
                    refine g_topi (fun y16654 ey16654 => ?_)
                    replace hF := FE.lt hF ey16654
                    have hy16654 : y16654.toInt = 0 + (A15258 8 0).toInt := i32_add ey16654 rfl rfl (by omega) (by omega)
                    refine g_iload_n hk dX12_tellSeries_86 rfl ?_
                    refine g_if_eq (tgt := 95) (a := 1) hk dX12_tellSeries_87 (by decide) rfl (fun z9 => absurd z9 (show ¬ ((1 : Int) = (0 : Int)) from by decide)) (fun _ => ?_)
                    refine g_ldc (v := 100000) hk (List.mem_cons_of_mem _ (List.mem_append_left _ (List.mem_of_getElem? (i := 21) rfl))) dX12_tellSeries_90 ?_
                    refine g_goto (tgt := 99) hk dX12_tellSeries_92 (by decide) ?_
                    have k16655 : (100000 : Int32).toInt = 100000 := rfl
                    refine sM_9 (j := y16654.toNatClampNeg) hk (vp_in_iff.mpr ⟨by omega, by omega⟩) rfl dX12_tellSeries_99 ?_
                    refine g_aload_n hk dX12_tellSeries_100 rfl ?_
                    refine gM_i6 (v := (I16645 6)) hk hin12 (List.mem_cons_of_mem _ (List.mem_append_left _ (List.mem_of_getElem? (i := 11) rfl))) dX12_tellSeries_101 rfl ?_
                    refine g_if_le (tgt := 108) (a := (I16645 6).toInt) hk dX12_tellSeries_104 (by decide) rfl (fun c16656 => ?_) (fun c16656 => ?_)
                    · skip
                      replace hF := FE.pos hF c16656
                      refine g_aload_n hk dX12_tellSeries_108 rfl ?_
                      refine gM_r0_26 hk hin12 (List.mem_cons_of_mem _ (List.mem_append_left _ (List.mem_of_getElem? (i := 12) rfl))) dX12_tellSeries_109 ?_
                      refine g_aload_n hk dX12_tellSeries_112 rfl ?_
                      refine gM_i16 (v := (I 16)) hk hin12 (List.mem_cons_of_mem _ (List.mem_append_left _ (List.mem_of_getElem? (i := 13) rfl))) dX12_tellSeries_113 ((hI16645 16 rfl).trans ((hI16611 16 rfl).trans (hI15258 16 rfl))) ?_
                      by_cases c16657 : (I 16).toInt = 0
                      · have ec16657 : (I 16) = 0 := Int32.toInt_inj.mp c16657
                        replace hF := FE.pos hF c16657
                        rw [ec16657]
                        show GW κ 2 0 0 (wM r g I16645 (up3 A16645 9 (y16654.toNatClampNeg) 100000) L16645) 116 [(1, .int 1), (0, .ref (r 0))] [.int 0, .ref (r 9)]
                        refine g_dup2 hk dX12_tellSeries_116 rfl rfl ?_
                        refine lM_8 (v := (A15258 8 0)) hk (vp_in_iff.mpr ⟨by decide, by decide⟩) ((congrFun (hA16645 8 rfl) _).trans (congrFun (hA16611 8 rfl) _)) dX12_tellSeries_117 ?_
                        refine g_iconst (v := 1) hk dX12_tellSeries_118 (by decide) ?_
                        refine g_iadd hk dX12_tellSeries_119 ?_
                        refine g_topi (fun y16658 ey16658 => ?_)
                        replace hF := FE.lt hF ey16658
                        have hy16658 : y16658.toInt = (A15258 8 0).toInt + 1 := i32_add ey16658 rfl rfl (by omega) (by omega)
                        refine sM_8 (j := 0) hk (vp_in_iff.mpr ⟨by decide, by decide⟩) (by decide) dX12_tellSeries_120 ?_
                        have f16659 := IvM_s8_0 hV16645
                        have f16660 := IvM_s8_1 hV16645
                        refine g_aload_n hk dX12_tellSeries_121 rfl ?_
                        refine g_dup hk dX12_tellSeries_122 rfl ?_
                        refine gM_i11 (v := (I15258 11)) hk hin12 (List.mem_cons_of_mem _ (List.mem_append_left _ (List.mem_of_getElem? (i := 0) rfl))) dX12_tellSeries_123 ((hI16645 11 rfl).trans (hI16611 11 rfl)) ?_
                        refine g_iconst (v := 1) hk dX12_tellSeries_126 (by decide) ?_
                        have b16661l := Int32.le_toInt (I15258 11)
                        have b16661h := Int32.toInt_lt (I15258 11)
                        refine g_iadd hk dX12_tellSeries_127 ?_
                        refine g_topi (fun y16662 ey16662 => ?_)
                        replace hF := FE.lt hF ey16662
                        refine pM_i11 hk hin12 (List.mem_cons_of_mem _ (List.mem_append_left _ (List.mem_of_getElem? (i := 0) rfl))) dX12_tellSeries_128 ?_
                        refine g_goto (tgt := 5) hk dX12_tellSeries_131 (by decide) ?_
                        exact g_lv (List.forall_mem_cons.mpr ⟨List.mem_of_getElem? (i := 1) rfl, (fun _ h => absurd h List.not_mem_nil)⟩) (ih16295 (upd I16645 11 y16662) (up3 (up3 A16645 9 (y16654.toNatClampNeg) 100000) 8 0 y16658) L16645 (show Md [4, 6, 7, 8, 9, 11, 12, 13] (upd I 11 0) (upd I16645 11 y16662) from Md.tr hI15258 (show Md [4, 6, 7, 8, 9, 11, 12, 13] I15258 (upd I16645 11 y16662) from (Md.up (Md.tr (Md.tr Md.rf hI16611 rfl) hI16645 rfl) rfl)) rfl) (show Md [8, 9] A (up3 (up3 A16645 9 (y16654.toNatClampNeg) 100000) 8 0 y16658) from Md.tr hA15258 (show Md [8, 9] A15258 (up3 (up3 A16645 9 (y16654.toNatClampNeg) 100000) 8 0 y16658) from (Md.up3 (Md.up3 (Md.tr (Md.tr Md.rf hA16611 rfl) hA16645 rfl) rfl) rfl)) rfl) ⟨(IvM_f1 (I := I16645) (A := A16645) hV16645), (IvM_f2 (I := I16645) (A := A16645) hV16645), (IvM_f3 (I := I16645) (A := A16645) hV16645), (IvM_f4 (I := I16645) (A := A16645) hV16645), (IvM_f6 (I := I16645) (A := A16645) hV16645), (IvM_f8 (I := I16645) (A := A16645) hV16645), (IvM_f15 (I := I16645) (A := A16645) hV16645), (IvM_f16 (I := I16645) (A := A16645) hV16645), (IvM_f17 (I := I16645) (A := A16645) hV16645), (IvM_f18 (I := I16645) (A := A16645) hV16645), (IvM_f22 (I := I16645) (A := A16645) hV16645), (IvM_f23 (I := I16645) (A := A16645) hV16645), (IvM_f24 (I := I16645) (A := A16645) hV16645), (IvM_a11 (I := I16645) (A := A16645) hV16645), (IvM_a26 (I := I16645) (A := A16645) hV16645), (show 0 ≤ ((up3 (up3 A16645 9 (y16654.toNatClampNeg) 100000) 8 0 y16658) 8 0).toInt ∧ ((up3 (up3 A16645 9 (y16654.toNatClampNeg) 100000) 8 0 y16658) 8 0).toInt ≤ 160 from by rw [show (up3 (up3 A16645 9 (y16654.toNatClampNeg) 100000) 8 0 y16658) 8 0 = y16658 from rfl]; exact ⟨by omega, by omega⟩), (show 0 ≤ ((up3 (up3 A16645 9 (y16654.toNatClampNeg) 100000) 8 0 y16658) 8 1).toInt ∧ ((up3 (up3 A16645 9 (y16654.toNatClampNeg) 100000) 8 0 y16658) 8 1).toInt ≤ 160 from by rw [show (up3 (up3 A16645 9 (y16654.toNatClampNeg) 100000) 8 0 y16658) 8 1 = (A16645 8 1) from rfl]; exact (IvM_s8_1 (I := I16645) (A := A16645) hV16645)), (IvM_s10_0 (I := I16645) (A := A16645) hV16645), (IvM_s10_1 (I := I16645) (A := A16645) hV16645), (IvM_s17_0 (I := I16645) (A := A16645) hV16645), (IvM_s17_164 (I := I16645) (A := A16645) hV16645), (IvM_lv (I := I16645) (A := A16645) hV16645), (IvM_sd (I := I16645) (A := A16645) hV16645), (IvM_nq (I := I16645) (A := A16645) hV16645), (IvM_hr (I := I16645) (A := A16645) hV16645), (IvM_hh (I := I16645) (A := A16645) hV16645), trivial⟩ (show L16645 = L from ((hL16645.trans hL16611).trans hL15258)) (by first | (rw [show ((upd I16645 11 y16662) 4) = (I16645 4) from rfl] <;> omega) | omega) (by first | (rw [show ((upd I16645 11 y16662) 6) = (I16645 6) from rfl] <;> omega) | omega) (by first | (rw [show ((upd I16645 11 y16662) 8) = (I15258 8) from ((hI16645 8 rfl).trans (hI16611 8 rfl))] <;> omega) | omega) (by first | (rw [show ((upd I16645 11 y16662) 4) = (I16645 4) from rfl] <;> omega) | omega) (by omega) hF)
                      replace hF := FE.neg hF c16657
                      exfalso; omega
                    · skip
                      replace hF := FE.neg hF c16656
                      have f16663 := IvM_f4 hIv
                      have f16664 := IvM_f6 hIv
                      have f16665 := IvM_f8 hIv
                      exact g_vret hk hR ⟨I16645, (up3 A16645 9 (y16654.toNatClampNeg) 100000), L16645, (show Md [4, 6, 7, 8, 9, 11, 12, 13] I I16645 from (Md.tr (Md.tr (Md.tr (Md.up Md.rf rfl) hI15258 rfl) hI16611 rfl) hI16645 rfl)), (show Md [8, 9] A (up3 A16645 9 (y16654.toNatClampNeg) 100000) from (Md.up3 (Md.tr (Md.tr (Md.tr Md.rf hA15258 rfl) hA16611 rfl) hA16645 rfl) rfl)), ⟨(IvM_f1 (I := I16645) (A := A16645) hV16645), (IvM_f2 (I := I16645) (A := A16645) hV16645), (IvM_f3 (I := I16645) (A := A16645) hV16645), (IvM_f4 (I := I16645) (A := A16645) hV16645), (IvM_f6 (I := I16645) (A := A16645) hV16645), (IvM_f8 (I := I16645) (A := A16645) hV16645), (IvM_f15 (I := I16645) (A := A16645) hV16645), (IvM_f16 (I := I16645) (A := A16645) hV16645), (IvM_f17 (I := I16645) (A := A16645) hV16645), (IvM_f18 (I := I16645) (A := A16645) hV16645), (IvM_f22 (I := I16645) (A := A16645) hV16645), (IvM_f23 (I := I16645) (A := A16645) hV16645), (IvM_f24 (I := I16645) (A := A16645) hV16645), (IvM_a11 (I := I16645) (A := A16645) hV16645), (IvM_a26 (I := I16645) (A := A16645) hV16645), (IvM_s8_0 (I := I16645) (A := A16645) hV16645), (IvM_s8_1 (I := I16645) (A := A16645) hV16645), (IvM_s10_0 (I := I16645) (A := A16645) hV16645), (IvM_s10_1 (I := I16645) (A := A16645) hV16645), (IvM_s17_0 (I := I16645) (A := A16645) hV16645), (IvM_s17_164 (I := I16645) (A := A16645) hV16645), (IvM_lv (I := I16645) (A := A16645) hV16645), (IvM_sd (I := I16645) (A := A16645) hV16645), (IvM_nq (I := I16645) (A := A16645) hV16645), (IvM_hr (I := I16645) (A := A16645) hV16645), (IvM_hh (I := I16645) (A := A16645) hV16645), trivial⟩, (by omega), (by omega), (by rw [show (I16645 8) = (I15258 8) from ((hI16645 8 rfl).trans (hI16611 8 rfl))] <;> omega), (show L16645 = L from (hL16645.trans (hL16611.trans hL15258))), hF, rfl, rfl⟩ dX12_tellSeries_107
                  replace hF := FE.neg hF c16653
                  exfalso; omega
                replace hF := FE.neg hF c16652
                exfalso; omega
            · skip
              replace hF := FE.neg hF c16616
              have f16666 := IvM_f4 hIv
              have f16667 := IvM_f6 hIv
              have f16668 := IvM_f8 hIv
              exact g_vret hk hR ⟨I16611, A16611, L16611, (show Md [4, 6, 7, 8, 9, 11, 12, 13] I I16611 from (Md.tr (Md.tr (Md.up Md.rf rfl) hI15258 rfl) hI16611 rfl)), (show Md [8, 9] A A16611 from (Md.tr (Md.tr Md.rf hA15258 rfl) hA16611 rfl)), hV16611, (by rw [show (I16611 4) = (I15258 4) from (hI16611 4 rfl)] <;> omega), (by omega), (by rw [show (I16611 8) = (I15258 8) from (hI16611 8 rfl)] <;> omega), (show L16611 = L from (hL16611.trans hL15258)), hF, rfl, rfl⟩ dX12_tellSeries_48
        replace hF := FE.neg hF c16553
        by_cases c16669 : (I 16).toInt = 1
        · have ec16669 : (I 16) = 1 := Int32.toInt_inj.mp c16669
          replace hF := FE.pos hF c16669
          rw [ec16669]
          show GW κ 2 0 0 (wM r g I15258 A15258 L15258) 29 [(0, .ref (r 0))] [.int 1, .ref (r 9)]
          refine lM_8 (v := (A15258 8 1)) hk (vp_in_iff.mpr ⟨by decide, by decide⟩) rfl dX12_tellSeries_29 ?_
          have f16670 := IvM_s8_1 hV15258
          refine g_sipush (v := 160) hk dX12_tellSeries_30 (by decide) ?_
          refine g_icmp_ne (tgt := 41) (a := (A15258 8 1).toInt) (b := 160) hk dX12_tellSeries_33 (by decide) rfl rfl (fun c16671 => ?_) (fun c16671 => ?_)
          · skip
            replace hF := FE.pos hF c16671
            refine g_aload_n hk dX12_tellSeries_41 rfl ?_
            refine gM_i6 (v := (I15258 6)) hk hin12 (List.mem_cons_of_mem _ (List.mem_append_left _ (List.mem_of_getElem? (i := 11) rfl))) dX12_tellSeries_42 rfl ?_
            refine g_if_le (tgt := 49) (a := (I15258 6).toInt) hk dX12_tellSeries_45 (by decide) rfl (fun c16672 => ?_) (fun c16672 => ?_)
            · skip
              replace hF := FE.pos hF c16672
              refine g_aload_n hk dX12_tellSeries_49 rfl ?_
              refine g_bipush (v := 26) hk dX12_tellSeries_50 (by decide) ?_
              have k16673 : (26 : Int32).toInt = 26 := rfl
              refine g_callV (n := 1) hk (j125_X12_is l D zt r g I15258 A15258 L15258 26 hV15258) (SP.same _) (fun _ h => h) (gi_V (List.mem_cons_of_mem _ (List.mem_append_left _ (List.mem_of_getElem? (i := 5) rfl))) (List.mem_cons_of_mem _ (List.mem_append_left _ (List.mem_of_getElem? (i := 6) rfl))) (List.mem_cons_of_mem _ (List.mem_append_left _ (List.mem_of_getElem? (i := 7) rfl))) (List.mem_cons_of_mem _ (List.mem_append_left _ (List.mem_of_getElem? (i := 4) rfl))) (gi_sub (fun w h => (List.mem_cons_of_mem _ (List.mem_append_right _ (List.mem_append_right _ (List.mem_append_right _ (List.mem_append_left _ h)))))) zg_j125_X12_is)) rfl rfl rfl (by decide +kernel) ⟨Nat.le_of_ble_eq_true rfl, Nat.le_of_ble_eq_true rfl⟩ 0 rfl rfl rfl rfl (Nat.le_of_ble_eq_true rfl) ⟨Nat.le_of_ble_eq_true rfl, Nat.le_of_ble_eq_true rfl⟩ dX12_tellSeries_52 (fun v ty' w' hp hk' => ?_)
              rcases hp with ⟨c16674, hC, rfl, rfl⟩ | ⟨c16676, hC, rfl, rfl⟩
              · skip
                replace hF := FE.pos hF hC
                rw [show (A15258 2 (I15258 4).toNatClampNeg) = (A 2 (I15258 4).toNatClampNeg) from (congrFun (hA15258 2 rfl) _)] at c16674
                show GW κ 2 0 0 (wM r g I15258 A15258 L15258) 55 [(0, .ref (r 0))] [.int 0]
                refine g_istore_n (lv' := [(1, .int 0), (0, .ref (r 0))]) hk dX12_tellSeries_55 (by decide) rfl ?_
                refine g_iload_n hk dX12_tellSeries_56 rfl ?_
                refine g_if_eq (tgt := 64) (a := 0) hk dX12_tellSeries_57 (by decide) rfl (fun _ => ?_) (fun z9 => absurd (show (0 : Int) = (0 : Int) from by decide) z9)
                refine g_aload_n hk dX12_tellSeries_64 rfl ?_
                refine gM_r0_27 hk hin12 (List.mem_cons_of_mem _ (List.mem_append_left _ (List.mem_of_getElem? (i := 14) rfl))) dX12_tellSeries_65 ?_
                refine g_sipush (v := 160) hk dX12_tellSeries_68 (by decide) ?_
                refine g_aload_n hk dX12_tellSeries_71 rfl ?_
                refine gM_i16 (v := (I 16)) hk hin12 (List.mem_cons_of_mem _ (List.mem_append_left _ (List.mem_of_getElem? (i := 13) rfl))) dX12_tellSeries_72 (hI15258 16 rfl) ?_
                by_cases c16678 : (I 16).toInt = 1
                · have ec16678 : (I 16) = 1 := Int32.toInt_inj.mp c16678
                  replace hF := FE.pos hF c16678
                  rw [ec16678]
                  show GW κ 2 0 0 (wM r g I15258 A15258 L15258) 75 [(1, .int 0), (0, .ref (r 0))] [.int 1, .int 160, .ref (r 10)]
                  refine g_imul hk dX12_tellSeries_75 ?_
                  refine g_norm (v := 160) (by decide) ?_
                  refine g_aload_n hk dX12_tellSeries_76 rfl ?_
                  refine gM_r0_26 hk hin12 (List.mem_cons_of_mem _ (List.mem_append_left _ (List.mem_of_getElem? (i := 12) rfl))) dX12_tellSeries_77 ?_
                  refine g_aload_n hk dX12_tellSeries_80 rfl ?_
                  refine gM_i16 (v := (I 16)) hk hin12 (List.mem_cons_of_mem _ (List.mem_append_left _ (List.mem_of_getElem? (i := 13) rfl))) dX12_tellSeries_81 (hI15258 16 rfl) ?_
                  by_cases c16679 : (I 16).toInt = 1
                  · have ec16679 : (I 16) = 1 := Int32.toInt_inj.mp c16679
                    replace hF := FE.pos hF c16679
                    rw [ec16679]
                    show GW κ 2 0 0 (wM r g I15258 A15258 L15258) 84 [(1, .int 0), (0, .ref (r 0))] [.int 1, .ref (r 9), .int 160, .ref (r 10)]
                    refine lM_8 (v := (A15258 8 1)) hk (vp_in_iff.mpr ⟨by decide, by decide⟩) rfl dX12_tellSeries_84 ?_
                    refine g_iadd hk dX12_tellSeries_85 ?_
                    refine g_topi (fun y16680 ey16680 => ?_)
                    replace hF := FE.lt hF ey16680
                    have hy16680 : y16680.toInt = 160 + (A15258 8 1).toInt := i32_add ey16680 rfl rfl (by omega) (by omega)
                    refine g_iload_n hk dX12_tellSeries_86 rfl ?_
                    refine g_if_eq (tgt := 95) (a := 0) hk dX12_tellSeries_87 (by decide) rfl (fun _ => ?_) (fun z9 => absurd (show (0 : Int) = (0 : Int) from by decide) z9)
                    refine g_aload_n hk dX12_tellSeries_95 rfl ?_
                    refine g_callV (n := 0) hk (j132_X12_readingTold l D zt r g I15258 A15258 L15258  hV15258) (SP.same _) (fun _ h => h) (gi_V (List.mem_cons_of_mem _ (List.mem_append_left _ (List.mem_of_getElem? (i := 15) rfl))) (List.mem_cons_of_mem _ (List.mem_append_left _ (List.mem_of_getElem? (i := 16) rfl))) (List.mem_cons_of_mem _ (List.mem_append_left _ (List.mem_of_getElem? (i := 17) rfl))) (List.mem_cons_of_mem _ (List.mem_append_left _ (List.mem_of_getElem? (i := 4) rfl))) (gi_sub (fun w h => (List.mem_cons_of_mem _ (List.mem_append_right _ (List.mem_append_right _ (List.mem_append_right _ (List.mem_append_right _ (List.mem_append_right _ (List.mem_append_left _ h)))))))) zg_j132_X12_readingTold)) rfl rfl rfl (by decide +kernel) ⟨Nat.le_of_ble_eq_true rfl, Nat.le_of_ble_eq_true rfl⟩ 0 rfl rfl rfl rfl (Nat.le_of_ble_eq_true rfl) ⟨Nat.le_of_ble_eq_true rfl, Nat.le_of_ble_eq_true rfl⟩ dX12_tellSeries_96 (fun v ty' w' hp hk' => ?_)
                    obtain ⟨I16682, A16682, L16682, hI16682, hA16682, hV16682, y16681, r16683, r16684, r16685, r16686, hL16682, hC, rfl, rfl⟩ := hp
                    replace hF := FE.bdM hF hC
                    have f16687 := IvM_f4 hV16682
                    have f16688 := IvM_f6 hV16682
                    have f16689 := IvM_f8 hV16682
                    show GW κ 2 0 0 (wM r g I16682 A16682 L16682) 99 [(1, .int 0), (0, .ref (r 0))] [.int y16681, .int y16680, .ref (r 10)]
                    refine sM_9 (j := y16680.toNatClampNeg) hk (vp_in_iff.mpr ⟨by omega, by omega⟩) rfl dX12_tellSeries_99 ?_
                    refine g_aload_n hk dX12_tellSeries_100 rfl ?_
                    refine gM_i6 (v := (I16682 6)) hk hin12 (List.mem_cons_of_mem _ (List.mem_append_left _ (List.mem_of_getElem? (i := 11) rfl))) dX12_tellSeries_101 rfl ?_
                    refine g_if_le (tgt := 108) (a := (I16682 6).toInt) hk dX12_tellSeries_104 (by decide) rfl (fun c16690 => ?_) (fun c16690 => ?_)
                    · skip
                      replace hF := FE.pos hF c16690
                      refine g_aload_n hk dX12_tellSeries_108 rfl ?_
                      refine gM_r0_26 hk hin12 (List.mem_cons_of_mem _ (List.mem_append_left _ (List.mem_of_getElem? (i := 12) rfl))) dX12_tellSeries_109 ?_
                      refine g_aload_n hk dX12_tellSeries_112 rfl ?_
                      refine gM_i16 (v := (I 16)) hk hin12 (List.mem_cons_of_mem _ (List.mem_append_left _ (List.mem_of_getElem? (i := 13) rfl))) dX12_tellSeries_113 ((hI16682 16 rfl).trans (hI15258 16 rfl)) ?_
                      by_cases c16691 : (I 16).toInt = 1
                      · have ec16691 : (I 16) = 1 := Int32.toInt_inj.mp c16691
                        replace hF := FE.pos hF c16691
                        rw [ec16691]
                        show GW κ 2 0 0 (wM r g I16682 (up3 A16682 9 (y16680.toNatClampNeg) y16681) L16682) 116 [(1, .int 0), (0, .ref (r 0))] [.int 1, .ref (r 9)]
                        refine g_dup2 hk dX12_tellSeries_116 rfl rfl ?_
                        refine lM_8 (v := (A15258 8 1)) hk (vp_in_iff.mpr ⟨by decide, by decide⟩) (congrFun (hA16682 8 rfl) _) dX12_tellSeries_117 ?_
                        refine g_iconst (v := 1) hk dX12_tellSeries_118 (by decide) ?_
                        refine g_iadd hk dX12_tellSeries_119 ?_
                        refine g_topi (fun y16692 ey16692 => ?_)
                        replace hF := FE.lt hF ey16692
                        have hy16692 : y16692.toInt = (A15258 8 1).toInt + 1 := i32_add ey16692 rfl rfl (by omega) (by omega)
                        refine sM_8 (j := 1) hk (vp_in_iff.mpr ⟨by decide, by decide⟩) (by decide) dX12_tellSeries_120 ?_
                        have f16693 := IvM_s8_0 hV16682
                        have f16694 := IvM_s8_1 hV16682
                        refine g_aload_n hk dX12_tellSeries_121 rfl ?_
                        refine g_dup hk dX12_tellSeries_122 rfl ?_
                        refine gM_i11 (v := (I15258 11)) hk hin12 (List.mem_cons_of_mem _ (List.mem_append_left _ (List.mem_of_getElem? (i := 0) rfl))) dX12_tellSeries_123 (hI16682 11 rfl) ?_
                        refine g_iconst (v := 1) hk dX12_tellSeries_126 (by decide) ?_
                        have b16695l := Int32.le_toInt (I15258 11)
                        have b16695h := Int32.toInt_lt (I15258 11)
                        refine g_iadd hk dX12_tellSeries_127 ?_
                        refine g_topi (fun y16696 ey16696 => ?_)
                        replace hF := FE.lt hF ey16696
                        refine pM_i11 hk hin12 (List.mem_cons_of_mem _ (List.mem_append_left _ (List.mem_of_getElem? (i := 0) rfl))) dX12_tellSeries_128 ?_
                        refine g_goto (tgt := 5) hk dX12_tellSeries_131 (by decide) ?_
                        exact g_lv (List.forall_mem_cons.mpr ⟨List.mem_of_getElem? (i := 1) rfl, (fun _ h => absurd h List.not_mem_nil)⟩) (ih16295 (upd I16682 11 y16696) (up3 (up3 A16682 9 (y16680.toNatClampNeg) y16681) 8 1 y16692) L16682 (show Md [4, 6, 7, 8, 9, 11, 12, 13] (upd I 11 0) (upd I16682 11 y16696) from Md.tr hI15258 (show Md [4, 6, 7, 8, 9, 11, 12, 13] I15258 (upd I16682 11 y16696) from (Md.up (Md.tr Md.rf hI16682 rfl) rfl)) rfl) (show Md [8, 9] A (up3 (up3 A16682 9 (y16680.toNatClampNeg) y16681) 8 1 y16692) from Md.tr hA15258 (show Md [8, 9] A15258 (up3 (up3 A16682 9 (y16680.toNatClampNeg) y16681) 8 1 y16692) from (Md.up3 (Md.up3 (Md.tr Md.rf hA16682 rfl) rfl) rfl)) rfl) ⟨(IvM_f1 (I := I16682) (A := A16682) hV16682), (IvM_f2 (I := I16682) (A := A16682) hV16682), (IvM_f3 (I := I16682) (A := A16682) hV16682), (IvM_f4 (I := I16682) (A := A16682) hV16682), (IvM_f6 (I := I16682) (A := A16682) hV16682), (IvM_f8 (I := I16682) (A := A16682) hV16682), (IvM_f15 (I := I16682) (A := A16682) hV16682), (IvM_f16 (I := I16682) (A := A16682) hV16682), (IvM_f17 (I := I16682) (A := A16682) hV16682), (IvM_f18 (I := I16682) (A := A16682) hV16682), (IvM_f22 (I := I16682) (A := A16682) hV16682), (IvM_f23 (I := I16682) (A := A16682) hV16682), (IvM_f24 (I := I16682) (A := A16682) hV16682), (IvM_a11 (I := I16682) (A := A16682) hV16682), (IvM_a26 (I := I16682) (A := A16682) hV16682), (show 0 ≤ ((up3 (up3 A16682 9 (y16680.toNatClampNeg) y16681) 8 1 y16692) 8 0).toInt ∧ ((up3 (up3 A16682 9 (y16680.toNatClampNeg) y16681) 8 1 y16692) 8 0).toInt ≤ 160 from by rw [show (up3 (up3 A16682 9 (y16680.toNatClampNeg) y16681) 8 1 y16692) 8 0 = (A16682 8 0) from rfl]; exact (IvM_s8_0 (I := I16682) (A := A16682) hV16682)), (show 0 ≤ ((up3 (up3 A16682 9 (y16680.toNatClampNeg) y16681) 8 1 y16692) 8 1).toInt ∧ ((up3 (up3 A16682 9 (y16680.toNatClampNeg) y16681) 8 1 y16692) 8 1).toInt ≤ 160 from by rw [show (up3 (up3 A16682 9 (y16680.toNatClampNeg) y16681) 8 1 y16692) 8 1 = y16692 from rfl]; exact ⟨by omega, by omega⟩), (IvM_s10_0 (I := I16682) (A := A16682) hV16682), (IvM_s10_1 (I := I16682) (A := A16682) hV16682), (IvM_s17_0 (I := I16682) (A := A16682) hV16682), (IvM_s17_164 (I := I16682) (A := A16682) hV16682), (IvM_lv (I := I16682) (A := A16682) hV16682), (IvM_sd (I := I16682) (A := A16682) hV16682), (IvM_nq (I := I16682) (A := A16682) hV16682), (IvM_hr (I := I16682) (A := A16682) hV16682), (IvM_hh (I := I16682) (A := A16682) hV16682), trivial⟩ (show L16682 = L from (hL16682.trans hL15258)) (by first | (rw [show ((upd I16682 11 y16696) 4) = (I16682 4) from rfl] <;> omega) | omega) (by first | (rw [show ((upd I16682 11 y16696) 6) = (I16682 6) from rfl] <;> omega) | omega) (by first | (rw [show ((upd I16682 11 y16696) 8) = (I16682 8) from rfl] <;> omega) | omega) (by first | (rw [show ((upd I16682 11 y16696) 4) = (I16682 4) from rfl] <;> omega) | omega) (by omega) hF)
                      replace hF := FE.neg hF c16691
                      exfalso; omega
                    · skip
                      replace hF := FE.neg hF c16690
                      have f16697 := IvM_f4 hIv
                      have f16698 := IvM_f6 hIv
                      have f16699 := IvM_f8 hIv
                      exact g_vret hk hR ⟨I16682, (up3 A16682 9 (y16680.toNatClampNeg) y16681), L16682, (show Md [4, 6, 7, 8, 9, 11, 12, 13] I I16682 from (Md.tr (Md.tr (Md.up Md.rf rfl) hI15258 rfl) hI16682 rfl)), (show Md [8, 9] A (up3 A16682 9 (y16680.toNatClampNeg) y16681) from (Md.up3 (Md.tr (Md.tr Md.rf hA15258 rfl) hA16682 rfl) rfl)), ⟨(IvM_f1 (I := I16682) (A := A16682) hV16682), (IvM_f2 (I := I16682) (A := A16682) hV16682), (IvM_f3 (I := I16682) (A := A16682) hV16682), (IvM_f4 (I := I16682) (A := A16682) hV16682), (IvM_f6 (I := I16682) (A := A16682) hV16682), (IvM_f8 (I := I16682) (A := A16682) hV16682), (IvM_f15 (I := I16682) (A := A16682) hV16682), (IvM_f16 (I := I16682) (A := A16682) hV16682), (IvM_f17 (I := I16682) (A := A16682) hV16682), (IvM_f18 (I := I16682) (A := A16682) hV16682), (IvM_f22 (I := I16682) (A := A16682) hV16682), (IvM_f23 (I := I16682) (A := A16682) hV16682), (IvM_f24 (I := I16682) (A := A16682) hV16682), (IvM_a11 (I := I16682) (A := A16682) hV16682), (IvM_a26 (I := I16682) (A := A16682) hV16682), (IvM_s8_0 (I := I16682) (A := A16682) hV16682), (IvM_s8_1 (I := I16682) (A := A16682) hV16682), (IvM_s10_0 (I := I16682) (A := A16682) hV16682), (IvM_s10_1 (I := I16682) (A := A16682) hV16682), (IvM_s17_0 (I := I16682) (A := A16682) hV16682), (IvM_s17_164 (I := I16682) (A := A16682) hV16682), (IvM_lv (I := I16682) (A := A16682) hV16682), (IvM_sd (I := I16682) (A := A16682) hV16682), (IvM_nq (I := I16682) (A := A16682) hV16682), (IvM_hr (I := I16682) (A := A16682) hV16682), (IvM_hh (I := I16682) (A := A16682) hV16682), trivial⟩, (by omega), (by omega), (by omega), (show L16682 = L from (hL16682.trans hL15258)), hF, rfl, rfl⟩ dX12_tellSeries_107
                  replace hF := FE.neg hF c16679
                  exfalso; omega
                replace hF := FE.neg hF c16678
                exfalso; omega
              · skip
                replace hF := FE.neg hF (fe_ne hC (by decide))
                rw [show (A15258 2 (I15258 4).toNatClampNeg) = (A 2 (I15258 4).toNatClampNeg) from (congrFun (hA15258 2 rfl) _)] at c16676
                show GW κ 2 0 0 (wM r g I15258 A15258 L15258) 55 [(0, .ref (r 0))] [.int 1]
                refine g_istore_n (lv' := [(1, .int 1), (0, .ref (r 0))]) hk dX12_tellSeries_55 (by decide) rfl ?_
                refine g_iload_n hk dX12_tellSeries_56 rfl ?_
                refine g_if_eq (tgt := 64) (a := 1) hk dX12_tellSeries_57 (by decide) rfl (fun z9 => absurd z9 (show ¬ ((1 : Int) = (0 : Int)) from by decide)) (fun _ => ?_)
                refine g_aload_n hk dX12_tellSeries_60 rfl ?_
                refine g_callV (n := 0) hk (j127_X12_goesOn l D zt r g I15258 A15258 L15258  hV15258) (SP.same _) (fun _ h => h) (gi_V (List.mem_cons_of_mem _ (List.mem_append_left _ (List.mem_of_getElem? (i := 18) rfl))) (List.mem_cons_of_mem _ (List.mem_append_left _ (List.mem_of_getElem? (i := 19) rfl))) (List.mem_cons_of_mem _ (List.mem_append_left _ (List.mem_of_getElem? (i := 20) rfl))) (List.mem_cons_of_mem _ (List.mem_append_left _ (List.mem_of_getElem? (i := 4) rfl))) (gi_sub (fun w h => (List.mem_cons_of_mem _ (List.mem_append_right _ (List.mem_append_right _ (List.mem_append_right _ (List.mem_append_right _ (List.mem_append_right _ (List.mem_append_right _ (List.mem_append_left _ h))))))))) zg_j127_X12_goesOn)) rfl rfl rfl (by decide +kernel) ⟨Nat.le_of_ble_eq_true rfl, Nat.le_of_ble_eq_true rfl⟩ 0 rfl rfl rfl rfl (Nat.le_of_ble_eq_true rfl) ⟨Nat.le_of_ble_eq_true rfl, Nat.le_of_ble_eq_true rfl⟩ dX12_tellSeries_61 (fun v ty' w' hp hk' => ?_)
                obtain ⟨I16701, A16701, L16701, hI16701, hA16701, hV16701, r16702, r16703, r16704, r16705, hL16701, hC, rfl, rfl⟩ := hp
                replace hF := FE.bdM hF hC
                have f16706 := IvM_f4 hV16701
                have f16707 := IvM_f6 hV16701
                rw [show (I16701 8) = (I15258 8) from (hI16701 8 rfl)] at r16704
                show GW κ 2 0 0 (wM r g I16701 A16701 L16701) 64 [(1, .int 1), (0, .ref (r 0))] []
                refine g_aload_n hk dX12_tellSeries_64 rfl ?_
                refine gM_r0_27 hk hin12 (List.mem_cons_of_mem _ (List.mem_append_left _ (List.mem_of_getElem? (i := 14) rfl))) dX12_tellSeries_65 ?_
                refine g_sipush (v := 160) hk dX12_tellSeries_68 (by decide) ?_
                refine g_aload_n hk dX12_tellSeries_71 rfl ?_
                refine gM_i16 (v := (I 16)) hk hin12 (List.mem_cons_of_mem _ (List.mem_append_left _ (List.mem_of_getElem? (i := 13) rfl))) dX12_tellSeries_72 ((hI16701 16 rfl).trans (hI15258 16 rfl)) ?_
                by_cases c16708 : (I 16).toInt = 1
                · have ec16708 : (I 16) = 1 := Int32.toInt_inj.mp c16708
                  replace hF := FE.pos hF c16708
                  rw [ec16708]
                  show GW κ 2 0 0 (wM r g I16701 A16701 L16701) 75 [(1, .int 1), (0, .ref (r 0))] [.int 1, .int 160, .ref (r 10)]
                  refine g_imul hk dX12_tellSeries_75 ?_
                  refine g_norm (v := 160) (by decide) ?_
                  refine g_aload_n hk dX12_tellSeries_76 rfl ?_
                  refine gM_r0_26 hk hin12 (List.mem_cons_of_mem _ (List.mem_append_left _ (List.mem_of_getElem? (i := 12) rfl))) dX12_tellSeries_77 ?_
                  refine g_aload_n hk dX12_tellSeries_80 rfl ?_
                  refine gM_i16 (v := (I 16)) hk hin12 (List.mem_cons_of_mem _ (List.mem_append_left _ (List.mem_of_getElem? (i := 13) rfl))) dX12_tellSeries_81 ((hI16701 16 rfl).trans (hI15258 16 rfl)) ?_
                  by_cases c16709 : (I 16).toInt = 1
                  · have ec16709 : (I 16) = 1 := Int32.toInt_inj.mp c16709
                    replace hF := FE.pos hF c16709
                    rw [ec16709]
                    show GW κ 2 0 0 (wM r g I16701 A16701 L16701) 84 [(1, .int 1), (0, .ref (r 0))] [.int 1, .ref (r 9), .int 160, .ref (r 10)]
                    refine lM_8 (v := (A15258 8 1)) hk (vp_in_iff.mpr ⟨by decide, by decide⟩) (congrFun (hA16701 8 rfl) _) dX12_tellSeries_84 ?_
                    refine g_iadd hk dX12_tellSeries_85 ?_
                    refine g_topi (fun y16710 ey16710 => ?_)
                    replace hF := FE.lt hF ey16710
                    have hy16710 : y16710.toInt = 160 + (A15258 8 1).toInt := i32_add ey16710 rfl rfl (by omega) (by omega)
                    refine g_iload_n hk dX12_tellSeries_86 rfl ?_
                    refine g_if_eq (tgt := 95) (a := 1) hk dX12_tellSeries_87 (by decide) rfl (fun z9 => absurd z9 (show ¬ ((1 : Int) = (0 : Int)) from by decide)) (fun _ => ?_)
                    refine g_ldc (v := 100000) hk (List.mem_cons_of_mem _ (List.mem_append_left _ (List.mem_of_getElem? (i := 21) rfl))) dX12_tellSeries_90 ?_
                    refine g_goto (tgt := 99) hk dX12_tellSeries_92 (by decide) ?_
                    have k16711 : (100000 : Int32).toInt = 100000 := rfl
                    refine sM_9 (j := y16710.toNatClampNeg) hk (vp_in_iff.mpr ⟨by omega, by omega⟩) rfl dX12_tellSeries_99 ?_
                    refine g_aload_n hk dX12_tellSeries_100 rfl ?_
                    refine gM_i6 (v := (I16701 6)) hk hin12 (List.mem_cons_of_mem _ (List.mem_append_left _ (List.mem_of_getElem? (i := 11) rfl))) dX12_tellSeries_101 rfl ?_
                    refine g_if_le (tgt := 108) (a := (I16701 6).toInt) hk dX12_tellSeries_104 (by decide) rfl (fun c16712 => ?_) (fun c16712 => ?_)
                    · skip
                      replace hF := FE.pos hF c16712
                      refine g_aload_n hk dX12_tellSeries_108 rfl ?_
                      refine gM_r0_26 hk hin12 (List.mem_cons_of_mem _ (List.mem_append_left _ (List.mem_of_getElem? (i := 12) rfl))) dX12_tellSeries_109 ?_
                      refine g_aload_n hk dX12_tellSeries_112 rfl ?_
                      refine gM_i16 (v := (I 16)) hk hin12 (List.mem_cons_of_mem _ (List.mem_append_left _ (List.mem_of_getElem? (i := 13) rfl))) dX12_tellSeries_113 ((hI16701 16 rfl).trans (hI15258 16 rfl)) ?_
                      by_cases c16713 : (I 16).toInt = 1
                      · have ec16713 : (I 16) = 1 := Int32.toInt_inj.mp c16713
                        replace hF := FE.pos hF c16713
                        rw [ec16713]
                        show GW κ 2 0 0 (wM r g I16701 (up3 A16701 9 (y16710.toNatClampNeg) 100000) L16701) 116 [(1, .int 1), (0, .ref (r 0))] [.int 1, .ref (r 9)]
                        refine g_dup2 hk dX12_tellSeries_116 rfl rfl ?_
                        refine lM_8 (v := (A15258 8 1)) hk (vp_in_iff.mpr ⟨by decide, by decide⟩) (congrFun (hA16701 8 rfl) _) dX12_tellSeries_117 ?_
                        refine g_iconst (v := 1) hk dX12_tellSeries_118 (by decide) ?_
                        refine g_iadd hk dX12_tellSeries_119 ?_
                        refine g_topi (fun y16714 ey16714 => ?_)
                        replace hF := FE.lt hF ey16714
                        have hy16714 : y16714.toInt = (A15258 8 1).toInt + 1 := i32_add ey16714 rfl rfl (by omega) (by omega)
                        refine sM_8 (j := 1) hk (vp_in_iff.mpr ⟨by decide, by decide⟩) (by decide) dX12_tellSeries_120 ?_
                        have f16715 := IvM_s8_0 hV16701
                        have f16716 := IvM_s8_1 hV16701
                        refine g_aload_n hk dX12_tellSeries_121 rfl ?_
                        refine g_dup hk dX12_tellSeries_122 rfl ?_
                        refine gM_i11 (v := (I15258 11)) hk hin12 (List.mem_cons_of_mem _ (List.mem_append_left _ (List.mem_of_getElem? (i := 0) rfl))) dX12_tellSeries_123 (hI16701 11 rfl) ?_
                        refine g_iconst (v := 1) hk dX12_tellSeries_126 (by decide) ?_
                        have b16717l := Int32.le_toInt (I15258 11)
                        have b16717h := Int32.toInt_lt (I15258 11)
                        refine g_iadd hk dX12_tellSeries_127 ?_
                        refine g_topi (fun y16718 ey16718 => ?_)
                        replace hF := FE.lt hF ey16718
                        refine pM_i11 hk hin12 (List.mem_cons_of_mem _ (List.mem_append_left _ (List.mem_of_getElem? (i := 0) rfl))) dX12_tellSeries_128 ?_
                        refine g_goto (tgt := 5) hk dX12_tellSeries_131 (by decide) ?_
                        exact g_lv (List.forall_mem_cons.mpr ⟨List.mem_of_getElem? (i := 1) rfl, (fun _ h => absurd h List.not_mem_nil)⟩) (ih16295 (upd I16701 11 y16718) (up3 (up3 A16701 9 (y16710.toNatClampNeg) 100000) 8 1 y16714) L16701 (show Md [4, 6, 7, 8, 9, 11, 12, 13] (upd I 11 0) (upd I16701 11 y16718) from Md.tr hI15258 (show Md [4, 6, 7, 8, 9, 11, 12, 13] I15258 (upd I16701 11 y16718) from (Md.up (Md.tr Md.rf hI16701 rfl) rfl)) rfl) (show Md [8, 9] A (up3 (up3 A16701 9 (y16710.toNatClampNeg) 100000) 8 1 y16714) from Md.tr hA15258 (show Md [8, 9] A15258 (up3 (up3 A16701 9 (y16710.toNatClampNeg) 100000) 8 1 y16714) from (Md.up3 (Md.up3 (Md.tr Md.rf hA16701 rfl) rfl) rfl)) rfl) ⟨(IvM_f1 (I := I16701) (A := A16701) hV16701), (IvM_f2 (I := I16701) (A := A16701) hV16701), (IvM_f3 (I := I16701) (A := A16701) hV16701), (IvM_f4 (I := I16701) (A := A16701) hV16701), (IvM_f6 (I := I16701) (A := A16701) hV16701), (IvM_f8 (I := I16701) (A := A16701) hV16701), (IvM_f15 (I := I16701) (A := A16701) hV16701), (IvM_f16 (I := I16701) (A := A16701) hV16701), (IvM_f17 (I := I16701) (A := A16701) hV16701), (IvM_f18 (I := I16701) (A := A16701) hV16701), (IvM_f22 (I := I16701) (A := A16701) hV16701), (IvM_f23 (I := I16701) (A := A16701) hV16701), (IvM_f24 (I := I16701) (A := A16701) hV16701), (IvM_a11 (I := I16701) (A := A16701) hV16701), (IvM_a26 (I := I16701) (A := A16701) hV16701), (show 0 ≤ ((up3 (up3 A16701 9 (y16710.toNatClampNeg) 100000) 8 1 y16714) 8 0).toInt ∧ ((up3 (up3 A16701 9 (y16710.toNatClampNeg) 100000) 8 1 y16714) 8 0).toInt ≤ 160 from by rw [show (up3 (up3 A16701 9 (y16710.toNatClampNeg) 100000) 8 1 y16714) 8 0 = (A16701 8 0) from rfl]; exact (IvM_s8_0 (I := I16701) (A := A16701) hV16701)), (show 0 ≤ ((up3 (up3 A16701 9 (y16710.toNatClampNeg) 100000) 8 1 y16714) 8 1).toInt ∧ ((up3 (up3 A16701 9 (y16710.toNatClampNeg) 100000) 8 1 y16714) 8 1).toInt ≤ 160 from by rw [show (up3 (up3 A16701 9 (y16710.toNatClampNeg) 100000) 8 1 y16714) 8 1 = y16714 from rfl]; exact ⟨by omega, by omega⟩), (IvM_s10_0 (I := I16701) (A := A16701) hV16701), (IvM_s10_1 (I := I16701) (A := A16701) hV16701), (IvM_s17_0 (I := I16701) (A := A16701) hV16701), (IvM_s17_164 (I := I16701) (A := A16701) hV16701), (IvM_lv (I := I16701) (A := A16701) hV16701), (IvM_sd (I := I16701) (A := A16701) hV16701), (IvM_nq (I := I16701) (A := A16701) hV16701), (IvM_hr (I := I16701) (A := A16701) hV16701), (IvM_hh (I := I16701) (A := A16701) hV16701), trivial⟩ (show L16701 = L from (hL16701.trans hL15258)) (by first | (rw [show ((upd I16701 11 y16718) 4) = (I16701 4) from rfl] <;> omega) | omega) (by first | (rw [show ((upd I16701 11 y16718) 6) = (I16701 6) from rfl] <;> omega) | omega) (by first | (rw [show ((upd I16701 11 y16718) 8) = (I15258 8) from (hI16701 8 rfl)] <;> omega) | omega) (by first | (rw [show ((upd I16701 11 y16718) 4) = (I16701 4) from rfl] <;> omega) | omega) (by omega) hF)
                      replace hF := FE.neg hF c16713
                      exfalso; omega
                    · skip
                      replace hF := FE.neg hF c16712
                      have f16719 := IvM_f4 hIv
                      have f16720 := IvM_f6 hIv
                      have f16721 := IvM_f8 hIv
                      exact g_vret hk hR ⟨I16701, (up3 A16701 9 (y16710.toNatClampNeg) 100000), L16701, (show Md [4, 6, 7, 8, 9, 11, 12, 13] I I16701 from (Md.tr (Md.tr (Md.up Md.rf rfl) hI15258 rfl) hI16701 rfl)), (show Md [8, 9] A (up3 A16701 9 (y16710.toNatClampNeg) 100000) from (Md.up3 (Md.tr (Md.tr Md.rf hA15258 rfl) hA16701 rfl) rfl)), ⟨(IvM_f1 (I := I16701) (A := A16701) hV16701), (IvM_f2 (I := I16701) (A := A16701) hV16701), (IvM_f3 (I := I16701) (A := A16701) hV16701), (IvM_f4 (I := I16701) (A := A16701) hV16701), (IvM_f6 (I := I16701) (A := A16701) hV16701), (IvM_f8 (I := I16701) (A := A16701) hV16701), (IvM_f15 (I := I16701) (A := A16701) hV16701), (IvM_f16 (I := I16701) (A := A16701) hV16701), (IvM_f17 (I := I16701) (A := A16701) hV16701), (IvM_f18 (I := I16701) (A := A16701) hV16701), (IvM_f22 (I := I16701) (A := A16701) hV16701), (IvM_f23 (I := I16701) (A := A16701) hV16701), (IvM_f24 (I := I16701) (A := A16701) hV16701), (IvM_a11 (I := I16701) (A := A16701) hV16701), (IvM_a26 (I := I16701) (A := A16701) hV16701), (IvM_s8_0 (I := I16701) (A := A16701) hV16701), (IvM_s8_1 (I := I16701) (A := A16701) hV16701), (IvM_s10_0 (I := I16701) (A := A16701) hV16701), (IvM_s10_1 (I := I16701) (A := A16701) hV16701), (IvM_s17_0 (I := I16701) (A := A16701) hV16701), (IvM_s17_164 (I := I16701) (A := A16701) hV16701), (IvM_lv (I := I16701) (A := A16701) hV16701), (IvM_sd (I := I16701) (A := A16701) hV16701), (IvM_nq (I := I16701) (A := A16701) hV16701), (IvM_hr (I := I16701) (A := A16701) hV16701), (IvM_hh (I := I16701) (A := A16701) hV16701), trivial⟩, (by omega), (by omega), (by rw [show (I16701 8) = (I15258 8) from (hI16701 8 rfl)] <;> omega), (show L16701 = L from (hL16701.trans hL15258)), hF, rfl, rfl⟩ dX12_tellSeries_107
                  replace hF := FE.neg hF c16709
                  exfalso; omega
                replace hF := FE.neg hF c16708
                exfalso; omega
            · skip
              replace hF := FE.neg hF c16672
              have f16722 := IvM_f4 hIv
              have f16723 := IvM_f6 hIv
              have f16724 := IvM_f8 hIv
              exact g_vret hk hR ⟨I15258, A15258, L15258, (show Md [4, 6, 7, 8, 9, 11, 12, 13] I I15258 from (Md.tr (Md.up Md.rf rfl) hI15258 rfl)), (show Md [8, 9] A A15258 from (Md.tr Md.rf hA15258 rfl)), hV15258, (by omega), (by omega), (by omega), (show L15258 = L from hL15258), hF, rfl, rfl⟩ dX12_tellSeries_48
          · skip
            replace hF := FE.neg hF c16671
            refine g_aload_n hk dX12_tellSeries_36 rfl ?_
            refine g_iconst (v := 2) hk dX12_tellSeries_37 (by decide) ?_
            have k16725 : (2 : Int32).toInt = 2 := rfl
            refine g_callV (n := 1) hk (j128_X12_fail l D zt r g I15258 A15258 L15258 2 hV15258 (by decide) (by decide)) (SP.same _) (fun _ h => h) (gi_V (List.mem_cons_of_mem _ (List.mem_append_left _ (List.mem_of_getElem? (i := 22) rfl))) (List.mem_cons_of_mem _ (List.mem_append_left _ (List.mem_of_getElem? (i := 23) rfl))) (List.mem_cons_of_mem _ (List.mem_append_left _ (List.mem_of_getElem? (i := 24) rfl))) (List.mem_cons_of_mem _ (List.mem_append_left _ (List.mem_of_getElem? (i := 4) rfl))) (gi_sub (fun w h => (List.mem_cons_of_mem _ (List.mem_append_right _ (List.mem_append_right _ (List.mem_append_right _ (List.mem_append_right _ (List.mem_append_right _ (List.mem_append_right _ (List.mem_append_right _ (List.mem_append_left _ h)))))))))) zg_j128_X12_fail)) rfl rfl rfl (by decide +kernel) ⟨Nat.le_of_ble_eq_true rfl, Nat.le_of_ble_eq_true rfl⟩ 0 rfl rfl rfl rfl (Nat.le_of_ble_eq_true rfl) ⟨Nat.le_of_ble_eq_true rfl, Nat.le_of_ble_eq_true rfl⟩ dX12_tellSeries_38 (fun v ty' w' hp hk' => ?_)
            obtain ⟨I16727, A16727, L16727, hI16727, hA16727, hV16727, r16728, r16729, r16730, hL16727, hC, rfl, rfl⟩ := hp
            replace hF := FE.bdM hF hC
            have f16731 := IvM_f6 hV16727
            rw [show (I16727 8) = (I15258 8) from (hI16727 8 rfl)] at r16729
            show GW κ 2 0 0 (wM r g I16727 A16727 L16727) 41 [(0, .ref (r 0))] []
            refine g_aload_n hk dX12_tellSeries_41 rfl ?_
            refine gM_i6 (v := (I16727 6)) hk hin12 (List.mem_cons_of_mem _ (List.mem_append_left _ (List.mem_of_getElem? (i := 11) rfl))) dX12_tellSeries_42 rfl ?_
            refine g_if_le (tgt := 49) (a := (I16727 6).toInt) hk dX12_tellSeries_45 (by decide) rfl (fun c16732 => ?_) (fun c16732 => ?_)
            · skip
              replace hF := FE.pos hF c16732
              refine g_aload_n hk dX12_tellSeries_49 rfl ?_
              refine g_bipush (v := 26) hk dX12_tellSeries_50 (by decide) ?_
              have k16733 : (26 : Int32).toInt = 26 := rfl
              refine g_callV (n := 1) hk (j125_X12_is l D zt r g I16727 A16727 L16727 26 hV16727) (SP.same _) (fun _ h => h) (gi_V (List.mem_cons_of_mem _ (List.mem_append_left _ (List.mem_of_getElem? (i := 5) rfl))) (List.mem_cons_of_mem _ (List.mem_append_left _ (List.mem_of_getElem? (i := 6) rfl))) (List.mem_cons_of_mem _ (List.mem_append_left _ (List.mem_of_getElem? (i := 7) rfl))) (List.mem_cons_of_mem _ (List.mem_append_left _ (List.mem_of_getElem? (i := 4) rfl))) (gi_sub (fun w h => (List.mem_cons_of_mem _ (List.mem_append_right _ (List.mem_append_right _ (List.mem_append_right _ (List.mem_append_left _ h)))))) zg_j125_X12_is)) rfl rfl rfl (by decide +kernel) ⟨Nat.le_of_ble_eq_true rfl, Nat.le_of_ble_eq_true rfl⟩ 0 rfl rfl rfl rfl (Nat.le_of_ble_eq_true rfl) ⟨Nat.le_of_ble_eq_true rfl, Nat.le_of_ble_eq_true rfl⟩ dX12_tellSeries_52 (fun v ty' w' hp hk' => ?_)
              rcases hp with ⟨c16734, hC, rfl, rfl⟩ | ⟨c16736, hC, rfl, rfl⟩
              · skip
                replace hF := FE.pos hF hC
                rw [show (A16727 2 (I16727 4).toNatClampNeg) = (A 2 (I15258 4).toNatClampNeg) from (by rw [show I16727 4 = (I15258 4) from (hI16727 4 rfl)]; exact ((congrFun (hA16727 2 rfl) _).trans (congrFun (hA15258 2 rfl) _)))] at c16734
                show GW κ 2 0 0 (wM r g I16727 A16727 L16727) 55 [(0, .ref (r 0))] [.int 0]
                refine g_istore_n (lv' := [(1, .int 0), (0, .ref (r 0))]) hk dX12_tellSeries_55 (by decide) rfl ?_
                refine g_iload_n hk dX12_tellSeries_56 rfl ?_
                refine g_if_eq (tgt := 64) (a := 0) hk dX12_tellSeries_57 (by decide) rfl (fun _ => ?_) (fun z9 => absurd (show (0 : Int) = (0 : Int) from by decide) z9)
                refine g_aload_n hk dX12_tellSeries_64 rfl ?_
                refine gM_r0_27 hk hin12 (List.mem_cons_of_mem _ (List.mem_append_left _ (List.mem_of_getElem? (i := 14) rfl))) dX12_tellSeries_65 ?_
                refine g_sipush (v := 160) hk dX12_tellSeries_68 (by decide) ?_
                refine g_aload_n hk dX12_tellSeries_71 rfl ?_
                refine gM_i16 (v := (I 16)) hk hin12 (List.mem_cons_of_mem _ (List.mem_append_left _ (List.mem_of_getElem? (i := 13) rfl))) dX12_tellSeries_72 ((hI16727 16 rfl).trans (hI15258 16 rfl)) ?_
                by_cases c16738 : (I 16).toInt = 1
                · have ec16738 : (I 16) = 1 := Int32.toInt_inj.mp c16738
                  replace hF := FE.pos hF c16738
                  rw [ec16738]
                  show GW κ 2 0 0 (wM r g I16727 A16727 L16727) 75 [(1, .int 0), (0, .ref (r 0))] [.int 1, .int 160, .ref (r 10)]
                  refine g_imul hk dX12_tellSeries_75 ?_
                  refine g_norm (v := 160) (by decide) ?_
                  refine g_aload_n hk dX12_tellSeries_76 rfl ?_
                  refine gM_r0_26 hk hin12 (List.mem_cons_of_mem _ (List.mem_append_left _ (List.mem_of_getElem? (i := 12) rfl))) dX12_tellSeries_77 ?_
                  refine g_aload_n hk dX12_tellSeries_80 rfl ?_
                  refine gM_i16 (v := (I 16)) hk hin12 (List.mem_cons_of_mem _ (List.mem_append_left _ (List.mem_of_getElem? (i := 13) rfl))) dX12_tellSeries_81 ((hI16727 16 rfl).trans (hI15258 16 rfl)) ?_
                  by_cases c16739 : (I 16).toInt = 1
                  · have ec16739 : (I 16) = 1 := Int32.toInt_inj.mp c16739
                    replace hF := FE.pos hF c16739
                    rw [ec16739]
                    show GW κ 2 0 0 (wM r g I16727 A16727 L16727) 84 [(1, .int 0), (0, .ref (r 0))] [.int 1, .ref (r 9), .int 160, .ref (r 10)]
                    refine lM_8 (v := (A15258 8 1)) hk (vp_in_iff.mpr ⟨by decide, by decide⟩) (congrFun (hA16727 8 rfl) _) dX12_tellSeries_84 ?_
                    refine g_iadd hk dX12_tellSeries_85 ?_
                    refine g_topi (fun y16740 ey16740 => ?_)
                    replace hF := FE.lt hF ey16740
                    have hy16740 : y16740.toInt = 160 + (A15258 8 1).toInt := i32_add ey16740 rfl rfl (by omega) (by omega)
                    refine g_iload_n hk dX12_tellSeries_86 rfl ?_
                    refine g_if_eq (tgt := 95) (a := 0) hk dX12_tellSeries_87 (by decide) rfl (fun _ => ?_) (fun z9 => absurd (show (0 : Int) = (0 : Int) from by decide) z9)
                    refine g_aload_n hk dX12_tellSeries_95 rfl ?_
                    refine g_callV (n := 0) hk (j132_X12_readingTold l D zt r g I16727 A16727 L16727  hV16727) (SP.same _) (fun _ h => h) (gi_V (List.mem_cons_of_mem _ (List.mem_append_left _ (List.mem_of_getElem? (i := 15) rfl))) (List.mem_cons_of_mem _ (List.mem_append_left _ (List.mem_of_getElem? (i := 16) rfl))) (List.mem_cons_of_mem _ (List.mem_append_left _ (List.mem_of_getElem? (i := 17) rfl))) (List.mem_cons_of_mem _ (List.mem_append_left _ (List.mem_of_getElem? (i := 4) rfl))) (gi_sub (fun w h => (List.mem_cons_of_mem _ (List.mem_append_right _ (List.mem_append_right _ (List.mem_append_right _ (List.mem_append_right _ (List.mem_append_right _ (List.mem_append_left _ h)))))))) zg_j132_X12_readingTold)) rfl rfl rfl (by decide +kernel) ⟨Nat.le_of_ble_eq_true rfl, Nat.le_of_ble_eq_true rfl⟩ 0 rfl rfl rfl rfl (Nat.le_of_ble_eq_true rfl) ⟨Nat.le_of_ble_eq_true rfl, Nat.le_of_ble_eq_true rfl⟩ dX12_tellSeries_96 (fun v ty' w' hp hk' => ?_)
                    obtain ⟨I16742, A16742, L16742, hI16742, hA16742, hV16742, y16741, r16743, r16744, r16745, r16746, hL16742, hC, rfl, rfl⟩ := hp
                    replace hF := FE.bdM hF hC
                    have f16747 := IvM_f4 hV16742
                    rw [show (I16727 4) = (I15258 4) from (hI16727 4 rfl)] at r16743
                    have f16748 := IvM_f6 hV16742
                    have f16749 := IvM_f8 hV16742
                    rw [show (I16727 8) = (I15258 8) from (hI16727 8 rfl)] at r16745
                    rw [show (I16727 4) = (I15258 4) from (hI16727 4 rfl)] at r16746
                    show GW κ 2 0 0 (wM r g I16742 A16742 L16742) 99 [(1, .int 0), (0, .ref (r 0))] [.int y16741, .int y16740, .ref (r 10)]
                    refine sM_9 (j := y16740.toNatClampNeg) hk (vp_in_iff.mpr ⟨by omega, by omega⟩) rfl dX12_tellSeries_99 ?_
                    refine g_aload_n hk dX12_tellSeries_100 rfl ?_
                    refine gM_i6 (v := (I16742 6)) hk hin12 (List.mem_cons_of_mem _ (List.mem_append_left _ (List.mem_of_getElem? (i := 11) rfl))) dX12_tellSeries_101 rfl ?_
                    refine g_if_le (tgt := 108) (a := (I16742 6).toInt) hk dX12_tellSeries_104 (by decide) rfl (fun c16750 => ?_) (fun c16750 => ?_)
                    · skip
                      replace hF := FE.pos hF c16750
                      refine g_aload_n hk dX12_tellSeries_108 rfl ?_
                      refine gM_r0_26 hk hin12 (List.mem_cons_of_mem _ (List.mem_append_left _ (List.mem_of_getElem? (i := 12) rfl))) dX12_tellSeries_109 ?_
                      refine g_aload_n hk dX12_tellSeries_112 rfl ?_
                      refine gM_i16 (v := (I 16)) hk hin12 (List.mem_cons_of_mem _ (List.mem_append_left _ (List.mem_of_getElem? (i := 13) rfl))) dX12_tellSeries_113 ((hI16742 16 rfl).trans ((hI16727 16 rfl).trans (hI15258 16 rfl))) ?_
                      by_cases c16751 : (I 16).toInt = 1
                      · have ec16751 : (I 16) = 1 := Int32.toInt_inj.mp c16751
                        replace hF := FE.pos hF c16751
                        rw [ec16751]
                        show GW κ 2 0 0 (wM r g I16742 (up3 A16742 9 (y16740.toNatClampNeg) y16741) L16742) 116 [(1, .int 0), (0, .ref (r 0))] [.int 1, .ref (r 9)]
                        refine g_dup2 hk dX12_tellSeries_116 rfl rfl ?_
                        refine lM_8 (v := (A15258 8 1)) hk (vp_in_iff.mpr ⟨by decide, by decide⟩) ((congrFun (hA16742 8 rfl) _).trans (congrFun (hA16727 8 rfl) _)) dX12_tellSeries_117 ?_
                        refine g_iconst (v := 1) hk dX12_tellSeries_118 (by decide) ?_
                        refine g_iadd hk dX12_tellSeries_119 ?_
                        refine g_topi (fun y16752 ey16752 => ?_)
                        replace hF := FE.lt hF ey16752
                        have hy16752 : y16752.toInt = (A15258 8 1).toInt + 1 := i32_add ey16752 rfl rfl (by omega) (by omega)
                        refine sM_8 (j := 1) hk (vp_in_iff.mpr ⟨by decide, by decide⟩) (by decide) dX12_tellSeries_120 ?_
                        have f16753 := IvM_s8_0 hV16742
                        have f16754 := IvM_s8_1 hV16742
                        refine g_aload_n hk dX12_tellSeries_121 rfl ?_
                        refine g_dup hk dX12_tellSeries_122 rfl ?_
                        refine gM_i11 (v := (I15258 11)) hk hin12 (List.mem_cons_of_mem _ (List.mem_append_left _ (List.mem_of_getElem? (i := 0) rfl))) dX12_tellSeries_123 ((hI16742 11 rfl).trans (hI16727 11 rfl)) ?_
                        refine g_iconst (v := 1) hk dX12_tellSeries_126 (by decide) ?_
                        have b16755l := Int32.le_toInt (I15258 11)
                        have b16755h := Int32.toInt_lt (I15258 11)
                        refine g_iadd hk dX12_tellSeries_127 ?_
                        refine g_topi (fun y16756 ey16756 => ?_)
                        replace hF := FE.lt hF ey16756
                        refine pM_i11 hk hin12 (List.mem_cons_of_mem _ (List.mem_append_left _ (List.mem_of_getElem? (i := 0) rfl))) dX12_tellSeries_128 ?_
                        refine g_goto (tgt := 5) hk dX12_tellSeries_131 (by decide) ?_
                        exact g_lv (List.forall_mem_cons.mpr ⟨List.mem_of_getElem? (i := 1) rfl, (fun _ h => absurd h List.not_mem_nil)⟩) (ih16295 (upd I16742 11 y16756) (up3 (up3 A16742 9 (y16740.toNatClampNeg) y16741) 8 1 y16752) L16742 (show Md [4, 6, 7, 8, 9, 11, 12, 13] (upd I 11 0) (upd I16742 11 y16756) from Md.tr hI15258 (show Md [4, 6, 7, 8, 9, 11, 12, 13] I15258 (upd I16742 11 y16756) from (Md.up (Md.tr (Md.tr Md.rf hI16727 rfl) hI16742 rfl) rfl)) rfl) (show Md [8, 9] A (up3 (up3 A16742 9 (y16740.toNatClampNeg) y16741) 8 1 y16752) from Md.tr hA15258 (show Md [8, 9] A15258 (up3 (up3 A16742 9 (y16740.toNatClampNeg) y16741) 8 1 y16752) from (Md.up3 (Md.up3 (Md.tr (Md.tr Md.rf hA16727 rfl) hA16742 rfl) rfl) rfl)) rfl) ⟨(IvM_f1 (I := I16742) (A := A16742) hV16742), (IvM_f2 (I := I16742) (A := A16742) hV16742), (IvM_f3 (I := I16742) (A := A16742) hV16742), (IvM_f4 (I := I16742) (A := A16742) hV16742), (IvM_f6 (I := I16742) (A := A16742) hV16742), (IvM_f8 (I := I16742) (A := A16742) hV16742), (IvM_f15 (I := I16742) (A := A16742) hV16742), (IvM_f16 (I := I16742) (A := A16742) hV16742), (IvM_f17 (I := I16742) (A := A16742) hV16742), (IvM_f18 (I := I16742) (A := A16742) hV16742), (IvM_f22 (I := I16742) (A := A16742) hV16742), (IvM_f23 (I := I16742) (A := A16742) hV16742), (IvM_f24 (I := I16742) (A := A16742) hV16742), (IvM_a11 (I := I16742) (A := A16742) hV16742), (IvM_a26 (I := I16742) (A := A16742) hV16742), (show 0 ≤ ((up3 (up3 A16742 9 (y16740.toNatClampNeg) y16741) 8 1 y16752) 8 0).toInt ∧ ((up3 (up3 A16742 9 (y16740.toNatClampNeg) y16741) 8 1 y16752) 8 0).toInt ≤ 160 from by rw [show (up3 (up3 A16742 9 (y16740.toNatClampNeg) y16741) 8 1 y16752) 8 0 = (A16742 8 0) from rfl]; exact (IvM_s8_0 (I := I16742) (A := A16742) hV16742)), (show 0 ≤ ((up3 (up3 A16742 9 (y16740.toNatClampNeg) y16741) 8 1 y16752) 8 1).toInt ∧ ((up3 (up3 A16742 9 (y16740.toNatClampNeg) y16741) 8 1 y16752) 8 1).toInt ≤ 160 from by rw [show (up3 (up3 A16742 9 (y16740.toNatClampNeg) y16741) 8 1 y16752) 8 1 = y16752 from rfl]; exact ⟨by omega, by omega⟩), (IvM_s10_0 (I := I16742) (A := A16742) hV16742), (IvM_s10_1 (I := I16742) (A := A16742) hV16742), (IvM_s17_0 (I := I16742) (A := A16742) hV16742), (IvM_s17_164 (I := I16742) (A := A16742) hV16742), (IvM_lv (I := I16742) (A := A16742) hV16742), (IvM_sd (I := I16742) (A := A16742) hV16742), (IvM_nq (I := I16742) (A := A16742) hV16742), (IvM_hr (I := I16742) (A := A16742) hV16742), (IvM_hh (I := I16742) (A := A16742) hV16742), trivial⟩ (show L16742 = L from ((hL16742.trans hL16727).trans hL15258)) (by first | (rw [show ((upd I16742 11 y16756) 4) = (I16742 4) from rfl] <;> omega) | omega) (by first | (rw [show ((upd I16742 11 y16756) 6) = (I16742 6) from rfl] <;> omega) | omega) (by first | (rw [show ((upd I16742 11 y16756) 8) = (I16742 8) from rfl] <;> omega) | omega) (by first | (rw [show ((upd I16742 11 y16756) 4) = (I16742 4) from rfl] <;> omega) | omega) (by omega) hF)
                      replace hF := FE.neg hF c16751
                      exfalso; omega
                    · skip
                      replace hF := FE.neg hF c16750
                      have f16757 := IvM_f4 hIv
                      have f16758 := IvM_f6 hIv
                      have f16759 := IvM_f8 hIv
                      exact g_vret hk hR ⟨I16742, (up3 A16742 9 (y16740.toNatClampNeg) y16741), L16742, (show Md [4, 6, 7, 8, 9, 11, 12, 13] I I16742 from (Md.tr (Md.tr (Md.tr (Md.up Md.rf rfl) hI15258 rfl) hI16727 rfl) hI16742 rfl)), (show Md [8, 9] A (up3 A16742 9 (y16740.toNatClampNeg) y16741) from (Md.up3 (Md.tr (Md.tr (Md.tr Md.rf hA15258 rfl) hA16727 rfl) hA16742 rfl) rfl)), ⟨(IvM_f1 (I := I16742) (A := A16742) hV16742), (IvM_f2 (I := I16742) (A := A16742) hV16742), (IvM_f3 (I := I16742) (A := A16742) hV16742), (IvM_f4 (I := I16742) (A := A16742) hV16742), (IvM_f6 (I := I16742) (A := A16742) hV16742), (IvM_f8 (I := I16742) (A := A16742) hV16742), (IvM_f15 (I := I16742) (A := A16742) hV16742), (IvM_f16 (I := I16742) (A := A16742) hV16742), (IvM_f17 (I := I16742) (A := A16742) hV16742), (IvM_f18 (I := I16742) (A := A16742) hV16742), (IvM_f22 (I := I16742) (A := A16742) hV16742), (IvM_f23 (I := I16742) (A := A16742) hV16742), (IvM_f24 (I := I16742) (A := A16742) hV16742), (IvM_a11 (I := I16742) (A := A16742) hV16742), (IvM_a26 (I := I16742) (A := A16742) hV16742), (IvM_s8_0 (I := I16742) (A := A16742) hV16742), (IvM_s8_1 (I := I16742) (A := A16742) hV16742), (IvM_s10_0 (I := I16742) (A := A16742) hV16742), (IvM_s10_1 (I := I16742) (A := A16742) hV16742), (IvM_s17_0 (I := I16742) (A := A16742) hV16742), (IvM_s17_164 (I := I16742) (A := A16742) hV16742), (IvM_lv (I := I16742) (A := A16742) hV16742), (IvM_sd (I := I16742) (A := A16742) hV16742), (IvM_nq (I := I16742) (A := A16742) hV16742), (IvM_hr (I := I16742) (A := A16742) hV16742), (IvM_hh (I := I16742) (A := A16742) hV16742), trivial⟩, (by omega), (by omega), (by omega), (show L16742 = L from (hL16742.trans (hL16727.trans hL15258))), hF, rfl, rfl⟩ dX12_tellSeries_107
                  replace hF := FE.neg hF c16739
                  exfalso; omega
                replace hF := FE.neg hF c16738
                exfalso; omega
              · skip
                replace hF := FE.neg hF (fe_ne hC (by decide))
                rw [show (A16727 2 (I16727 4).toNatClampNeg) = (A 2 (I15258 4).toNatClampNeg) from (by rw [show I16727 4 = (I15258 4) from (hI16727 4 rfl)]; exact ((congrFun (hA16727 2 rfl) _).trans (congrFun (hA15258 2 rfl) _)))] at c16736
                show GW κ 2 0 0 (wM r g I16727 A16727 L16727) 55 [(0, .ref (r 0))] [.int 1]
                refine g_istore_n (lv' := [(1, .int 1), (0, .ref (r 0))]) hk dX12_tellSeries_55 (by decide) rfl ?_
                refine g_iload_n hk dX12_tellSeries_56 rfl ?_
                refine g_if_eq (tgt := 64) (a := 1) hk dX12_tellSeries_57 (by decide) rfl (fun z9 => absurd z9 (show ¬ ((1 : Int) = (0 : Int)) from by decide)) (fun _ => ?_)
                refine g_aload_n hk dX12_tellSeries_60 rfl ?_
                refine g_callV (n := 0) hk (j127_X12_goesOn l D zt r g I16727 A16727 L16727  hV16727) (SP.same _) (fun _ h => h) (gi_V (List.mem_cons_of_mem _ (List.mem_append_left _ (List.mem_of_getElem? (i := 18) rfl))) (List.mem_cons_of_mem _ (List.mem_append_left _ (List.mem_of_getElem? (i := 19) rfl))) (List.mem_cons_of_mem _ (List.mem_append_left _ (List.mem_of_getElem? (i := 20) rfl))) (List.mem_cons_of_mem _ (List.mem_append_left _ (List.mem_of_getElem? (i := 4) rfl))) (gi_sub (fun w h => (List.mem_cons_of_mem _ (List.mem_append_right _ (List.mem_append_right _ (List.mem_append_right _ (List.mem_append_right _ (List.mem_append_right _ (List.mem_append_right _ (List.mem_append_left _ h))))))))) zg_j127_X12_goesOn)) rfl rfl rfl (by decide +kernel) ⟨Nat.le_of_ble_eq_true rfl, Nat.le_of_ble_eq_true rfl⟩ 0 rfl rfl rfl rfl (Nat.le_of_ble_eq_true rfl) ⟨Nat.le_of_ble_eq_true rfl, Nat.le_of_ble_eq_true rfl⟩ dX12_tellSeries_61 (fun v ty' w' hp hk' => ?_)
                obtain ⟨I16761, A16761, L16761, hI16761, hA16761, hV16761, r16762, r16763, r16764, r16765, hL16761, hC, rfl, rfl⟩ := hp
                replace hF := FE.bdM hF hC
                have f16766 := IvM_f4 hV16761
                rw [show (I16727 4) = (I15258 4) from (hI16727 4 rfl)] at r16762
                have f16767 := IvM_f6 hV16761
                rw [show (I16727 8) = (I15258 8) from (hI16727 8 rfl), show (I16761 8) = (I15258 8) from ((hI16761 8 rfl).trans (hI16727 8 rfl))] at r16764
                rw [show (I16727 4) = (I15258 4) from (hI16727 4 rfl)] at r16765
                show GW κ 2 0 0 (wM r g I16761 A16761 L16761) 64 [(1, .int 1), (0, .ref (r 0))] []
                refine g_aload_n hk dX12_tellSeries_64 rfl ?_
                refine gM_r0_27 hk hin12 (List.mem_cons_of_mem _ (List.mem_append_left _ (List.mem_of_getElem? (i := 14) rfl))) dX12_tellSeries_65 ?_
                refine g_sipush (v := 160) hk dX12_tellSeries_68 (by decide) ?_
                refine g_aload_n hk dX12_tellSeries_71 rfl ?_
                refine gM_i16 (v := (I 16)) hk hin12 (List.mem_cons_of_mem _ (List.mem_append_left _ (List.mem_of_getElem? (i := 13) rfl))) dX12_tellSeries_72 ((hI16761 16 rfl).trans ((hI16727 16 rfl).trans (hI15258 16 rfl))) ?_
                by_cases c16768 : (I 16).toInt = 1
                · have ec16768 : (I 16) = 1 := Int32.toInt_inj.mp c16768
                  replace hF := FE.pos hF c16768
                  rw [ec16768]
                  show GW κ 2 0 0 (wM r g I16761 A16761 L16761) 75 [(1, .int 1), (0, .ref (r 0))] [.int 1, .int 160, .ref (r 10)]
                  refine g_imul hk dX12_tellSeries_75 ?_
                  refine g_norm (v := 160) (by decide) ?_
                  refine g_aload_n hk dX12_tellSeries_76 rfl ?_
                  refine gM_r0_26 hk hin12 (List.mem_cons_of_mem _ (List.mem_append_left _ (List.mem_of_getElem? (i := 12) rfl))) dX12_tellSeries_77 ?_
                  refine g_aload_n hk dX12_tellSeries_80 rfl ?_
                  refine gM_i16 (v := (I 16)) hk hin12 (List.mem_cons_of_mem _ (List.mem_append_left _ (List.mem_of_getElem? (i := 13) rfl))) dX12_tellSeries_81 ((hI16761 16 rfl).trans ((hI16727 16 rfl).trans (hI15258 16 rfl))) ?_
                  by_cases c16769 : (I 16).toInt = 1
                  · have ec16769 : (I 16) = 1 := Int32.toInt_inj.mp c16769
                    replace hF := FE.pos hF c16769
                    rw [ec16769]
                    show GW κ 2 0 0 (wM r g I16761 A16761 L16761) 84 [(1, .int 1), (0, .ref (r 0))] [.int 1, .ref (r 9), .int 160, .ref (r 10)]
                    refine lM_8 (v := (A15258 8 1)) hk (vp_in_iff.mpr ⟨by decide, by decide⟩) ((congrFun (hA16761 8 rfl) _).trans (congrFun (hA16727 8 rfl) _)) dX12_tellSeries_84 ?_
                    refine g_iadd hk dX12_tellSeries_85 ?_
                    refine g_topi (fun y16770 ey16770 => ?_)
                    replace hF := FE.lt hF ey16770
                    have hy16770 : y16770.toInt = 160 + (A15258 8 1).toInt := i32_add ey16770 rfl rfl (by omega) (by omega)
                    refine g_iload_n hk dX12_tellSeries_86 rfl ?_
                    refine g_if_eq (tgt := 95) (a := 1) hk dX12_tellSeries_87 (by decide) rfl (fun z9 => absurd z9 (show ¬ ((1 : Int) = (0 : Int)) from by decide)) (fun _ => ?_)
                    refine g_ldc (v := 100000) hk (List.mem_cons_of_mem _ (List.mem_append_left _ (List.mem_of_getElem? (i := 21) rfl))) dX12_tellSeries_90 ?_
                    refine g_goto (tgt := 99) hk dX12_tellSeries_92 (by decide) ?_
                    have k16771 : (100000 : Int32).toInt = 100000 := rfl
                    refine sM_9 (j := y16770.toNatClampNeg) hk (vp_in_iff.mpr ⟨by omega, by omega⟩) rfl dX12_tellSeries_99 ?_
                    refine g_aload_n hk dX12_tellSeries_100 rfl ?_
                    refine gM_i6 (v := (I16761 6)) hk hin12 (List.mem_cons_of_mem _ (List.mem_append_left _ (List.mem_of_getElem? (i := 11) rfl))) dX12_tellSeries_101 rfl ?_
                    refine g_if_le (tgt := 108) (a := (I16761 6).toInt) hk dX12_tellSeries_104 (by decide) rfl (fun c16772 => ?_) (fun c16772 => ?_)
                    · skip
                      replace hF := FE.pos hF c16772
                      refine g_aload_n hk dX12_tellSeries_108 rfl ?_
                      refine gM_r0_26 hk hin12 (List.mem_cons_of_mem _ (List.mem_append_left _ (List.mem_of_getElem? (i := 12) rfl))) dX12_tellSeries_109 ?_
                      refine g_aload_n hk dX12_tellSeries_112 rfl ?_
                      refine gM_i16 (v := (I 16)) hk hin12 (List.mem_cons_of_mem _ (List.mem_append_left _ (List.mem_of_getElem? (i := 13) rfl))) dX12_tellSeries_113 ((hI16761 16 rfl).trans ((hI16727 16 rfl).trans (hI15258 16 rfl))) ?_
                      by_cases c16773 : (I 16).toInt = 1
                      · have ec16773 : (I 16) = 1 := Int32.toInt_inj.mp c16773
                        replace hF := FE.pos hF c16773
                        rw [ec16773]
                        show GW κ 2 0 0 (wM r g I16761 (up3 A16761 9 (y16770.toNatClampNeg) 100000) L16761) 116 [(1, .int 1), (0, .ref (r 0))] [.int 1, .ref (r 9)]
                        refine g_dup2 hk dX12_tellSeries_116 rfl rfl ?_
                        refine lM_8 (v := (A15258 8 1)) hk (vp_in_iff.mpr ⟨by decide, by decide⟩) ((congrFun (hA16761 8 rfl) _).trans (congrFun (hA16727 8 rfl) _)) dX12_tellSeries_117 ?_
                        refine g_iconst (v := 1) hk dX12_tellSeries_118 (by decide) ?_
                        refine g_iadd hk dX12_tellSeries_119 ?_
                        refine g_topi (fun y16774 ey16774 => ?_)
                        replace hF := FE.lt hF ey16774
                        have hy16774 : y16774.toInt = (A15258 8 1).toInt + 1 := i32_add ey16774 rfl rfl (by omega) (by omega)
                        refine sM_8 (j := 1) hk (vp_in_iff.mpr ⟨by decide, by decide⟩) (by decide) dX12_tellSeries_120 ?_
                        have f16775 := IvM_s8_0 hV16761
                        have f16776 := IvM_s8_1 hV16761
                        refine g_aload_n hk dX12_tellSeries_121 rfl ?_
                        refine g_dup hk dX12_tellSeries_122 rfl ?_
                        refine gM_i11 (v := (I15258 11)) hk hin12 (List.mem_cons_of_mem _ (List.mem_append_left _ (List.mem_of_getElem? (i := 0) rfl))) dX12_tellSeries_123 ((hI16761 11 rfl).trans (hI16727 11 rfl)) ?_
                        refine g_iconst (v := 1) hk dX12_tellSeries_126 (by decide) ?_
                        have b16777l := Int32.le_toInt (I15258 11)
                        have b16777h := Int32.toInt_lt (I15258 11)
                        refine g_iadd hk dX12_tellSeries_127 ?_
                        refine g_topi (fun y16778 ey16778 => ?_)
                        replace hF := FE.lt hF ey16778
                        refine pM_i11 hk hin12 (List.mem_cons_of_mem _ (List.mem_append_left _ (List.mem_of_getElem? (i := 0) rfl))) dX12_tellSeries_128 ?_
                        refine g_goto (tgt := 5) hk dX12_tellSeries_131 (by decide) ?_
                        exact g_lv (List.forall_mem_cons.mpr ⟨List.mem_of_getElem? (i := 1) rfl, (fun _ h => absurd h List.not_mem_nil)⟩) (ih16295 (upd I16761 11 y16778) (up3 (up3 A16761 9 (y16770.toNatClampNeg) 100000) 8 1 y16774) L16761 (show Md [4, 6, 7, 8, 9, 11, 12, 13] (upd I 11 0) (upd I16761 11 y16778) from Md.tr hI15258 (show Md [4, 6, 7, 8, 9, 11, 12, 13] I15258 (upd I16761 11 y16778) from (Md.up (Md.tr (Md.tr Md.rf hI16727 rfl) hI16761 rfl) rfl)) rfl) (show Md [8, 9] A (up3 (up3 A16761 9 (y16770.toNatClampNeg) 100000) 8 1 y16774) from Md.tr hA15258 (show Md [8, 9] A15258 (up3 (up3 A16761 9 (y16770.toNatClampNeg) 100000) 8 1 y16774) from (Md.up3 (Md.up3 (Md.tr (Md.tr Md.rf hA16727 rfl) hA16761 rfl) rfl) rfl)) rfl) ⟨(IvM_f1 (I := I16761) (A := A16761) hV16761), (IvM_f2 (I := I16761) (A := A16761) hV16761), (IvM_f3 (I := I16761) (A := A16761) hV16761), (IvM_f4 (I := I16761) (A := A16761) hV16761), (IvM_f6 (I := I16761) (A := A16761) hV16761), (IvM_f8 (I := I16761) (A := A16761) hV16761), (IvM_f15 (I := I16761) (A := A16761) hV16761), (IvM_f16 (I := I16761) (A := A16761) hV16761), (IvM_f17 (I := I16761) (A := A16761) hV16761), (IvM_f18 (I := I16761) (A := A16761) hV16761), (IvM_f22 (I := I16761) (A := A16761) hV16761), (IvM_f23 (I := I16761) (A := A16761) hV16761), (IvM_f24 (I := I16761) (A := A16761) hV16761), (IvM_a11 (I := I16761) (A := A16761) hV16761), (IvM_a26 (I := I16761) (A := A16761) hV16761), (show 0 ≤ ((up3 (up3 A16761 9 (y16770.toNatClampNeg) 100000) 8 1 y16774) 8 0).toInt ∧ ((up3 (up3 A16761 9 (y16770.toNatClampNeg) 100000) 8 1 y16774) 8 0).toInt ≤ 160 from by rw [show (up3 (up3 A16761 9 (y16770.toNatClampNeg) 100000) 8 1 y16774) 8 0 = (A16761 8 0) from rfl]; exact (IvM_s8_0 (I := I16761) (A := A16761) hV16761)), (show 0 ≤ ((up3 (up3 A16761 9 (y16770.toNatClampNeg) 100000) 8 1 y16774) 8 1).toInt ∧ ((up3 (up3 A16761 9 (y16770.toNatClampNeg) 100000) 8 1 y16774) 8 1).toInt ≤ 160 from by rw [show (up3 (up3 A16761 9 (y16770.toNatClampNeg) 100000) 8 1 y16774) 8 1 = y16774 from rfl]; exact ⟨by omega, by omega⟩), (IvM_s10_0 (I := I16761) (A := A16761) hV16761), (IvM_s10_1 (I := I16761) (A := A16761) hV16761), (IvM_s17_0 (I := I16761) (A := A16761) hV16761), (IvM_s17_164 (I := I16761) (A := A16761) hV16761), (IvM_lv (I := I16761) (A := A16761) hV16761), (IvM_sd (I := I16761) (A := A16761) hV16761), (IvM_nq (I := I16761) (A := A16761) hV16761), (IvM_hr (I := I16761) (A := A16761) hV16761), (IvM_hh (I := I16761) (A := A16761) hV16761), trivial⟩ (show L16761 = L from ((hL16761.trans hL16727).trans hL15258)) (by first | (rw [show ((upd I16761 11 y16778) 4) = (I16761 4) from rfl] <;> omega) | omega) (by first | (rw [show ((upd I16761 11 y16778) 6) = (I16761 6) from rfl] <;> omega) | omega) (by first | (rw [show ((upd I16761 11 y16778) 8) = (I15258 8) from ((hI16761 8 rfl).trans (hI16727 8 rfl))] <;> omega) | omega) (by first | (rw [show ((upd I16761 11 y16778) 4) = (I16761 4) from rfl] <;> omega) | omega) (by omega) hF)
                      replace hF := FE.neg hF c16773
                      exfalso; omega
                    · skip
                      replace hF := FE.neg hF c16772
                      have f16779 := IvM_f4 hIv
                      have f16780 := IvM_f6 hIv
                      have f16781 := IvM_f8 hIv
                      exact g_vret hk hR ⟨I16761, (up3 A16761 9 (y16770.toNatClampNeg) 100000), L16761, (show Md [4, 6, 7, 8, 9, 11, 12, 13] I I16761 from (Md.tr (Md.tr (Md.tr (Md.up Md.rf rfl) hI15258 rfl) hI16727 rfl) hI16761 rfl)), (show Md [8, 9] A (up3 A16761 9 (y16770.toNatClampNeg) 100000) from (Md.up3 (Md.tr (Md.tr (Md.tr Md.rf hA15258 rfl) hA16727 rfl) hA16761 rfl) rfl)), ⟨(IvM_f1 (I := I16761) (A := A16761) hV16761), (IvM_f2 (I := I16761) (A := A16761) hV16761), (IvM_f3 (I := I16761) (A := A16761) hV16761), (IvM_f4 (I := I16761) (A := A16761) hV16761), (IvM_f6 (I := I16761) (A := A16761) hV16761), (IvM_f8 (I := I16761) (A := A16761) hV16761), (IvM_f15 (I := I16761) (A := A16761) hV16761), (IvM_f16 (I := I16761) (A := A16761) hV16761), (IvM_f17 (I := I16761) (A := A16761) hV16761), (IvM_f18 (I := I16761) (A := A16761) hV16761), (IvM_f22 (I := I16761) (A := A16761) hV16761), (IvM_f23 (I := I16761) (A := A16761) hV16761), (IvM_f24 (I := I16761) (A := A16761) hV16761), (IvM_a11 (I := I16761) (A := A16761) hV16761), (IvM_a26 (I := I16761) (A := A16761) hV16761), (IvM_s8_0 (I := I16761) (A := A16761) hV16761), (IvM_s8_1 (I := I16761) (A := A16761) hV16761), (IvM_s10_0 (I := I16761) (A := A16761) hV16761), (IvM_s10_1 (I := I16761) (A := A16761) hV16761), (IvM_s17_0 (I := I16761) (A := A16761) hV16761), (IvM_s17_164 (I := I16761) (A := A16761) hV16761), (IvM_lv (I := I16761) (A := A16761) hV16761), (IvM_sd (I := I16761) (A := A16761) hV16761), (IvM_nq (I := I16761) (A := A16761) hV16761), (IvM_hr (I := I16761) (A := A16761) hV16761), (IvM_hh (I := I16761) (A := A16761) hV16761), trivial⟩, (by omega), (by omega), (by rw [show (I16761 8) = (I15258 8) from ((hI16761 8 rfl).trans (hI16727 8 rfl))] <;> omega), (show L16761 = L from (hL16761.trans (hL16727.trans hL15258))), hF, rfl, rfl⟩ dX12_tellSeries_107
                  replace hF := FE.neg hF c16769
                  exfalso; omega
                replace hF := FE.neg hF c16768
                exfalso; omega
            · skip
              replace hF := FE.neg hF c16732
              have f16782 := IvM_f4 hIv
              have f16783 := IvM_f6 hIv
              have f16784 := IvM_f8 hIv
              exact g_vret hk hR ⟨I16727, A16727, L16727, (show Md [4, 6, 7, 8, 9, 11, 12, 13] I I16727 from (Md.tr (Md.tr (Md.up Md.rf rfl) hI15258 rfl) hI16727 rfl)), (show Md [8, 9] A A16727 from (Md.tr (Md.tr Md.rf hA15258 rfl) hA16727 rfl)), hV16727, (by rw [show (I16727 4) = (I15258 4) from (hI16727 4 rfl)] <;> omega), (by omega), (by rw [show (I16727 8) = (I15258 8) from (hI16727 8 rfl)] <;> omega), (show L16727 = L from (hL16727.trans hL15258)), hF, rfl, rfl⟩ dX12_tellSeries_48
        replace hF := FE.neg hF c16669
        exfalso; omega
  have f16785 := IvM_f4 hIv
  have b16787 := Int32.le_toInt (I 4)
  have b16788 := Int32.toInt_lt (I 4)
  have n16786a : 401 - (I 4).toInt < (FU : Int) := by have := FU_eq; omega
  have n16786b : 0 < FU := by have := FU_eq; omega
  have f16789 := IvM_f6 hIv
  have f16790 := IvM_f8 hIv
  exact lp16291 FU (upd I 11 0) A L Md.rf Md.rf ⟨(IvM_f1 (I := I) (A := A) hIv), (IvM_f2 (I := I) (A := A) hIv), (IvM_f3 (I := I) (A := A) hIv), (IvM_f4 (I := I) (A := A) hIv), (IvM_f6 (I := I) (A := A) hIv), (IvM_f8 (I := I) (A := A) hIv), (IvM_f15 (I := I) (A := A) hIv), (IvM_f16 (I := I) (A := A) hIv), (IvM_f17 (I := I) (A := A) hIv), (IvM_f18 (I := I) (A := A) hIv), (IvM_f22 (I := I) (A := A) hIv), (IvM_f23 (I := I) (A := A) hIv), (IvM_f24 (I := I) (A := A) hIv), (IvM_a11 (I := I) (A := A) hIv), (IvM_a26 (I := I) (A := A) hIv), (IvM_s8_0 (I := I) (A := A) hIv), (IvM_s8_1 (I := I) (A := A) hIv), (IvM_s10_0 (I := I) (A := A) hIv), (IvM_s10_1 (I := I) (A := A) hIv), (IvM_s17_0 (I := I) (A := A) hIv), (IvM_s17_164 (I := I) (A := A) hIv), (IvM_lv (I := I) (A := A) hIv), (IvM_sd (I := I) (A := A) hIv), (IvM_nq (I := I) (A := A) hIv), (IvM_hr (I := I) (A := A) hIv), (IvM_hh (I := I) (A := A) hIv), trivial⟩ rfl (by first | (rw [show ((upd I 11 0) 4) = (I 4) from rfl] <;> omega) | omega) (by first | (rw [show ((upd I 11 0) 6) = (I 6) from rfl] <;> omega) | omega) (by first | (rw [show ((upd I 11 0) 8) = (I 8) from rfl] <;> omega) | omega) (by first | exact n16786a | (rw [show ((upd I 11 0) 4) = (I 4) from rfl] <;> exact n16786a)) n16786b hF
