def wo_m112_X12_keepsRow : List Cond := [Cond.fieldLink RX12 70 "WarpDeskModel" "now" "[I", Cond.fieldLink RX12 73 "WarpDeskModel" "row" "[I"]
def wz_m112_X12_keepsRow : List Cond := .code yX12_keepsRow cX12_keepsRow 2 none :: (wo_m112_X12_keepsRow ++ (wsX120 ++ ([] : List Cond)))
theorem zg_m112_X12_keepsRow : ∀ w ∈ wz_m112_X12_keepsRow, goodWord w = true := zg_cons rfl (zg_app (by decide +kernel) (zg_app zgU_wsX120 zg_nil))
theorem zi_m112_X12_keepsRow : ∀ w ∈ wz_m112_X12_keepsRow, w ∈ lw_tbl := zi_cons zw_1379 (zi_app (zi_cons zw_1413 (zi_cons zw_1414 zi_nil)) (zi_app inX12 zi_nil))
set_option maxHeartbeats 4000000 in
set_option maxRecDepth 100000 in
theorem m112_X12_keepsRow (l : Launch) (D : va_G) (zt : Nat × Nat × Nat) (g : Nat → ClassId) (r : Nat → Nat) : GM l D zt (tyM g) yX12_keepsRow wz_m112_X12_keepsRow ({ frames := 0, cells := 0, slots := 0, locals := 0 } : Room) [.ref (r 0)] (wM r g (upd iM0 14 (-1)) (up3 (up3 (up2 (up3 (up3 (up3 (up3 aM0 13 0 2) 16 0 8) 13 1 2) 16 1 8) 18 (cp (fun _ => 0) ((up3 (up3 (up3 (up3 aM0 13 0 2) 16 0 8) 13 1 2) 16 1 8) 18) 165)) 18 161 2) 18 164 8) (up3L (up3L (up3L (up3L (up3L (up3L (up3L (up3L (up3L (up3L (up3L (up3L (up3L lM0 6 0 275647447) 6 1 9451996) 6 2 40477) 6 3 6491892) 6 4 70517) 6 5 847604) 6 6 5146) 6 7 286880) 6 8 259565) 6 9 3379448) 6 10 9596021) 6 11 8740238) 6 12 282078293)) (fun v _ w' => v = none ∧ w' = wM r g (upd iM0 14 (-1)) (up2 (up3 (up3 (up2 (up3 (up3 (up3 (up3 aM0 13 0 2) 16 0 8) 13 1 2) 16 1 8) 18 (cp (fun _ => 0) ((up3 (up3 (up3 (up3 aM0 13 0 2) 16 0 8) 13 1 2) 16 1 8) 18) 165)) 18 161 2) 18 164 8) 17 (cp ((up3 (up3 (up2 (up3 (up3 (up3 (up3 aM0 13 0 2) 16 0 8) 13 1 2) 16 1 8) 18 (cp (fun _ => 0) ((up3 (up3 (up3 (up3 aM0 13 0 2) 16 0 8) 13 1 2) 16 1 8) 18) 165)) 18 161 2) 18 164 8) 18) ((up3 (up3 (up2 (up3 (up3 (up3 (up3 aM0 13 0 2) 16 0 8) 13 1 2) 16 1 8) 18 (cp (fun _ => 0) ((up3 (up3 (up3 (up3 aM0 13 0 2) 16 0 8) 13 1 2) 16 1 8) 18) 165)) 18 161 2) 18 164 8) 17) 165)) (up3L (up3L (up3L (up3L (up3L (up3L (up3L (up3L (up3L (up3L (up3L (up3L (up3L lM0 6 0 275647447) 6 1 9451996) 6 2 40477) 6 3 6491892) 6 4 70517) 6 5 847604) 6 6 5146) 6 7 286880) 6 8 259565) 6 9 3379448) 6 10 9596021) 6 11 8740238) 6 12 282078293)) 0 0 := by
  refine GM.of (cc := cX12_keepsRow) (maxL := 2) (ret := none) (own := RX12) (lv := [(0, .ref (r 0))]) (by decide) rfl rfl (Nat.le_of_ble_eq_true rfl) rfl (fun κ sz hk hR hN => ?_)
  have hin12 : ∀ w ∈ u_ws RX12 TX12 55, w ∈ wz_m112_X12_keepsRow := fun w h => (List.mem_cons_of_mem _ (List.mem_append_right _ (List.mem_append_left _ h)))
  refine g_iconst (v := 0) hk dX12_keepsRow_0 (by decide) ?_
  refine g_istore_n (lv' := [(1, .int 0), (0, .ref (r 0))]) hk dX12_keepsRow_1 (by decide) rfl ?_
  have lp241 : ∀ (n243 k242 : Nat), k242 + n243 = 165 → GW κ 2 0 0 (wM r g (upd iM0 14 (-1)) (up2 (up3 (up3 (up2 (up3 (up3 (up3 (up3 aM0 13 0 2) 16 0 8) 13 1 2) 16 1 8) 18 (cp (fun _ => 0) ((up3 (up3 (up3 (up3 aM0 13 0 2) 16 0 8) 13 1 2) 16 1 8) 18) 165)) 18 161 2) 18 164 8) 17 (cp ((up3 (up3 (up2 (up3 (up3 (up3 (up3 aM0 13 0 2) 16 0 8) 13 1 2) 16 1 8) 18 (cp (fun _ => 0) ((up3 (up3 (up3 (up3 aM0 13 0 2) 16 0 8) 13 1 2) 16 1 8) 18) 165)) 18 161 2) 18 164 8) 18) ((up3 (up3 (up2 (up3 (up3 (up3 (up3 aM0 13 0 2) 16 0 8) 13 1 2) 16 1 8) 18 (cp (fun _ => 0) ((up3 (up3 (up3 (up3 aM0 13 0 2) 16 0 8) 13 1 2) 16 1 8) 18) 165)) 18 161 2) 18 164 8) 17) k242)) (up3L (up3L (up3L (up3L (up3L (up3L (up3L (up3L (up3L (up3L (up3L (up3L (up3L lM0 6 0 275647447) 6 1 9451996) 6 2 40477) 6 3 6491892) 6 4 70517) 6 5 847604) 6 6 5146) 6 7 286880) 6 8 259565) 6 9 3379448) 6 10 9596021) 6 11 8740238) 6 12 282078293)) 2 [(1, .int (nI k242)), (0, .ref (r 0))] [] := by
    intro n243
    induction n243 with
    | zero =>
      intro k242 hk242
      obtain rfl : k242 = 165 := by omega
      show GW κ 2 0 0 (wM r g (upd iM0 14 (-1)) (up2 (up3 (up3 (up2 (up3 (up3 (up3 (up3 aM0 13 0 2) 16 0 8) 13 1 2) 16 1 8) 18 (cp (fun _ => 0) ((up3 (up3 (up3 (up3 aM0 13 0 2) 16 0 8) 13 1 2) 16 1 8) 18) 165)) 18 161 2) 18 164 8) 17 (cp ((up3 (up3 (up2 (up3 (up3 (up3 (up3 aM0 13 0 2) 16 0 8) 13 1 2) 16 1 8) 18 (cp (fun _ => 0) ((up3 (up3 (up3 (up3 aM0 13 0 2) 16 0 8) 13 1 2) 16 1 8) 18) 165)) 18 161 2) 18 164 8) 18) ((up3 (up3 (up2 (up3 (up3 (up3 (up3 aM0 13 0 2) 16 0 8) 13 1 2) 16 1 8) 18 (cp (fun _ => 0) ((up3 (up3 (up3 (up3 aM0 13 0 2) 16 0 8) 13 1 2) 16 1 8) 18) 165)) 18 161 2) 18 164 8) 17) 165)) (up3L (up3L (up3L (up3L (up3L (up3L (up3L (up3L (up3L (up3L (up3L (up3L (up3L lM0 6 0 275647447) 6 1 9451996) 6 2 40477) 6 3 6491892) 6 4 70517) 6 5 847604) 6 6 5146) 6 7 286880) 6 8 259565) 6 9 3379448) 6 10 9596021) 6 11 8740238) 6 12 282078293)) 2 [(1, .int 165), (0, .ref (r 0))] []
      refine g_iload_n hk dX12_keepsRow_2 rfl ?_
      refine g_sipush (v := 165) hk dX12_keepsRow_3 (by decide) ?_
      refine g_icmp_ge (tgt := 27) (a := 165) (b := 165) hk dX12_keepsRow_6 (by decide) rfl rfl (fun _ => ?_) (fun z9 => absurd (show (165 : Int) ≤ (165 : Int) from by decide) z9)
      exact g_vret hk hR ⟨rfl, rfl⟩ dX12_keepsRow_27
    | succ n243 ih =>
      intro k242 hk242
      obtain ⟨x244, ex244⟩ : ∃ x : Int32, x = nI k242 := ⟨_, rfl⟩
      have hx244 : x244.toInt = (k242 : Int) := by rw [ex244]; exact nI_toInt (by omega)
      rw [← ex244]
      refine g_iload_n hk dX12_keepsRow_2 rfl ?_
      refine g_sipush (v := 165) hk dX12_keepsRow_3 (by decide) ?_
      refine g_icmp_ge (tgt := 27) (a := x244.toInt) (b := 165) hk dX12_keepsRow_6 (by decide) rfl rfl (fun z9 => absurd z9 (show ¬ (165 ≤ x244.toInt) from by omega)) (fun _ => ?_)
      refine g_aload_n hk dX12_keepsRow_9 rfl ?_
      refine gM_r0_35 hk hin12 (List.mem_cons_of_mem _ (List.mem_append_left _ (List.mem_of_getElem? (i := 0) rfl))) dX12_keepsRow_10 ?_
      refine g_iload_n hk dX12_keepsRow_13 rfl ?_
      refine g_aload_n hk dX12_keepsRow_14 rfl ?_
      refine gM_r0_36 hk hin12 (List.mem_cons_of_mem _ (List.mem_append_left _ (List.mem_of_getElem? (i := 1) rfl))) dX12_keepsRow_15 ?_
      refine g_iload_n hk dX12_keepsRow_18 rfl ?_
      refine lM_18 (v := ((up2 (up3 (up3 (up2 (up3 (up3 (up3 (up3 aM0 13 0 2) 16 0 8) 13 1 2) 16 1 8) 18 (cp (fun _ => 0) ((up3 (up3 (up3 (up3 aM0 13 0 2) 16 0 8) 13 1 2) 16 1 8) 18) 165)) 18 161 2) 18 164 8) 17 (cp ((up3 (up3 (up2 (up3 (up3 (up3 (up3 aM0 13 0 2) 16 0 8) 13 1 2) 16 1 8) 18 (cp (fun _ => 0) ((up3 (up3 (up3 (up3 aM0 13 0 2) 16 0 8) 13 1 2) 16 1 8) 18) 165)) 18 161 2) 18 164 8) 18) ((up3 (up3 (up2 (up3 (up3 (up3 (up3 aM0 13 0 2) 16 0 8) 13 1 2) 16 1 8) 18 (cp (fun _ => 0) ((up3 (up3 (up3 (up3 aM0 13 0 2) 16 0 8) 13 1 2) 16 1 8) 18) 165)) 18 161 2) 18 164 8) 17) k242)) 18 (k242))) hk (vp_in_iff.mpr ⟨by omega, by omega⟩) (by rw [ex244, nI_clamp (by omega)]) dX12_keepsRow_19 ?_
      refine sM_17 (j := k242) hk (vp_in_iff.mpr ⟨by omega, by omega⟩) (by rw [ex244]; exact nI_clamp (by omega)) dX12_keepsRow_20 ?_
      obtain ⟨y245, ey245⟩ : ∃ y : Int32, y = x244 + Int32.ofInt 1 := ⟨_, rfl⟩
      refine g_iinc (v := y245) (lv' := [(1, .int y245), (0, .ref (r 0))]) hk 0 dX12_keepsRow_21 rfl ey245.symm (by decide) rfl ?_
      have fy245 : y245 = nI (k242 + 1) := by rw [ey245, ex244]; exact nI_1 (k242)
      refine g_goto (tgt := 2) hk dX12_keepsRow_24 (by decide) ?_
      rw [fy245]
      have eW : wM r g (upd iM0 14 (-1)) (up3 (up2 (up3 (up3 (up2 (up3 (up3 (up3 (up3 aM0 13 0 2) 16 0 8) 13 1 2) 16 1 8) 18 (cp (fun _ => 0) ((up3 (up3 (up3 (up3 aM0 13 0 2) 16 0 8) 13 1 2) 16 1 8) 18) 165)) 18 161 2) 18 164 8) 17 (cp ((up3 (up3 (up2 (up3 (up3 (up3 (up3 aM0 13 0 2) 16 0 8) 13 1 2) 16 1 8) 18 (cp (fun _ => 0) ((up3 (up3 (up3 (up3 aM0 13 0 2) 16 0 8) 13 1 2) 16 1 8) 18) 165)) 18 161 2) 18 164 8) 18) ((up3 (up3 (up2 (up3 (up3 (up3 (up3 aM0 13 0 2) 16 0 8) 13 1 2) 16 1 8) 18 (cp (fun _ => 0) ((up3 (up3 (up3 (up3 aM0 13 0 2) 16 0 8) 13 1 2) 16 1 8) 18) 165)) 18 161 2) 18 164 8) 17) k242)) 17 (k242) ((up2 (up3 (up3 (up2 (up3 (up3 (up3 (up3 aM0 13 0 2) 16 0 8) 13 1 2) 16 1 8) 18 (cp (fun _ => 0) ((up3 (up3 (up3 (up3 aM0 13 0 2) 16 0 8) 13 1 2) 16 1 8) 18) 165)) 18 161 2) 18 164 8) 17 (cp ((up3 (up3 (up2 (up3 (up3 (up3 (up3 aM0 13 0 2) 16 0 8) 13 1 2) 16 1 8) 18 (cp (fun _ => 0) ((up3 (up3 (up3 (up3 aM0 13 0 2) 16 0 8) 13 1 2) 16 1 8) 18) 165)) 18 161 2) 18 164 8) 18) ((up3 (up3 (up2 (up3 (up3 (up3 (up3 aM0 13 0 2) 16 0 8) 13 1 2) 16 1 8) 18 (cp (fun _ => 0) ((up3 (up3 (up3 (up3 aM0 13 0 2) 16 0 8) 13 1 2) 16 1 8) 18) 165)) 18 161 2) 18 164 8) 17) k242)) 18 (k242))) (up3L (up3L (up3L (up3L (up3L (up3L (up3L (up3L (up3L (up3L (up3L (up3L (up3L lM0 6 0 275647447) 6 1 9451996) 6 2 40477) 6 3 6491892) 6 4 70517) 6 5 847604) 6 6 5146) 6 7 286880) 6 8 259565) 6 9 3379448) 6 10 9596021) 6 11 8740238) 6 12 282078293) = wM r g (upd iM0 14 (-1)) (up2 (up3 (up3 (up2 (up3 (up3 (up3 (up3 aM0 13 0 2) 16 0 8) 13 1 2) 16 1 8) 18 (cp (fun _ => 0) ((up3 (up3 (up3 (up3 aM0 13 0 2) 16 0 8) 13 1 2) 16 1 8) 18) 165)) 18 161 2) 18 164 8) 17 (cp ((up3 (up3 (up2 (up3 (up3 (up3 (up3 aM0 13 0 2) 16 0 8) 13 1 2) 16 1 8) 18 (cp (fun _ => 0) ((up3 (up3 (up3 (up3 aM0 13 0 2) 16 0 8) 13 1 2) 16 1 8) 18) 165)) 18 161 2) 18 164 8) 18) ((up3 (up3 (up2 (up3 (up3 (up3 (up3 aM0 13 0 2) 16 0 8) 13 1 2) 16 1 8) 18 (cp (fun _ => 0) ((up3 (up3 (up3 (up3 aM0 13 0 2) 16 0 8) 13 1 2) 16 1 8) 18) 165)) 18 161 2) 18 164 8) 17) (k242 + 1))) (up3L (up3L (up3L (up3L (up3L (up3L (up3L (up3L (up3L (up3L (up3L (up3L (up3L lM0 6 0 275647447) 6 1 9451996) 6 2 40477) 6 3 6491892) 6 4 70517) 6 5 847604) 6 6 5146) 6 7 286880) 6 8 259565) 6 9 3379448) 6 10 9596021) 6 11 8740238) 6 12 282078293) := by rw [← cp_s ((up3 (up3 (up2 (up3 (up3 (up3 (up3 aM0 13 0 2) 16 0 8) 13 1 2) 16 1 8) 18 (cp (fun _ => 0) ((up3 (up3 (up3 (up3 aM0 13 0 2) 16 0 8) 13 1 2) 16 1 8) 18) 165)) 18 161 2) 18 164 8) 18) ((up3 (up3 (up2 (up3 (up3 (up3 (up3 aM0 13 0 2) 16 0 8) 13 1 2) 16 1 8) 18 (cp (fun _ => 0) ((up3 (up3 (up3 (up3 aM0 13 0 2) 16 0 8) 13 1 2) 16 1 8) 18) 165)) 18 161 2) 18 164 8) 17) (k242)]; rfl
      rw [eW]
      exact g_lv (List.forall_mem_cons.mpr ⟨List.mem_of_getElem? (i := 0) rfl, (List.forall_mem_cons.mpr ⟨List.mem_of_getElem? (i := 1) rfl, (fun _ h => absurd h List.not_mem_nil)⟩)⟩) (ih (k242 + 1) (by omega))
  exact lp241 165 0 (by omega)
def wo_m21_X12_init : List Cond := [Cond.methodLink RX12 7 objectInit, Cond.instanceMethod objectInit, Cond.code objectInit ⟨#[0xb1]⟩ 1 none, Cond.arrayClass .byte, Cond.fieldLink RX12 13 "WarpDeskModel" "tape" "[B", Cond.fieldLink RX12 17 "WarpDeskModel" "text" "[B", Cond.arrayClass .int, Cond.fieldLink RX12 20 "WarpDeskModel" "tKind" "[I", Cond.fieldLink RX12 24 "WarpDeskModel" "tPlace" "[I", Cond.fieldLink RX12 27 "WarpDeskModel" "tValue" "[I", Cond.arrayClass .long, Cond.fieldLink RX12 30 "WarpDeskModel" "tName" "[J", Cond.fieldLink RX12 34 "WarpDeskModel" "keys" "[J", Cond.fieldLink RX12 37 "WarpDeskModel" "place" "I", Cond.fieldLink RX12 40 "WarpDeskModel" "nameOf" "[J", Cond.fieldLink RX12 43 "WarpDeskModel" "placesTold" "[I", Cond.fieldLink RX12 46 "WarpDeskModel" "seriesTold" "[I", Cond.fieldLink RX12 49 "WarpDeskModel" "queries" "[I", Cond.fieldLink RX12 52 "WarpDeskModel" "queryMany" "[I", Cond.fieldLink RX12 55 "WarpDeskModel" "queryAt" "[I", Cond.fieldLink RX12 58 "WarpDeskModel" "bandTold" "[I", Cond.fieldLink RX12 61 "WarpDeskModel" "levelTold" "[I", Cond.fieldLink RX12 64 "WarpDeskModel" "costTold" "[I", Cond.fieldLink RX12 67 "WarpDeskModel" "apartTold" "[I", Cond.fieldLink RX12 70 "WarpDeskModel" "now" "[I", Cond.fieldLink RX12 73 "WarpDeskModel" "row" "[I", Cond.fieldLink RX12 76 "WarpDeskModel" "firstAt" "[I", Cond.fieldLink RX12 79 "WarpDeskModel" "otherAt" "[I", Cond.fieldLink RX12 82 "WarpDeskModel" "tableAt" "[I", Cond.fieldLink RX12 85 "WarpDeskModel" "history" "[I", Cond.fieldLink RX12 88 "WarpDeskModel" "wayAt" "[I", Cond.fieldLink RX12 91 "WarpDeskModel" "farBy" "[I", Cond.fieldLink RX12 94 "WarpDeskModel" "searchBy" "[I", Cond.fieldLink RX12 97 "WarpDeskModel" "matchAt" "[I", Cond.arrayClass .boolean, Cond.fieldLink RX12 100 "WarpDeskModel" "isHeld" "[Z", Cond.fieldLink RX12 104 "WarpDeskModel" "heldRows" "[I", Cond.methodLink RX12 107 yX12_plain, Cond.instanceMethod yX12_plain, Cond.selects RX12 yX12_plain yX12_plain, Cond.initialized RX12, Cond.fieldLink RX12 111 "WarpDeskModel" "cause" "I", Cond.methodLink RX12 114 yX12_letters, Cond.static yX12_letters, Cond.methodLink RX12 118 yX12_begins, Cond.instanceMethod yX12_begins, Cond.selects RX12 yX12_begins yX12_begins, Cond.methodLink RX12 121 yX12_keepsRow, Cond.instanceMethod yX12_keepsRow, Cond.selects RX12 yX12_keepsRow yX12_keepsRow]
def wz_m21_X12_init : List Cond := .code yX12_init cX12_init 1 none :: (wo_m21_X12_init ++ (wsX120 ++ (wz_m22_X12_plain ++ (wz_m23_X12_plain ++ (wz_m24_X12_letters ++ (wz_m32_X12_letters ++ (wz_m39_X12_letters ++ (wz_m45_X12_letters ++ (wz_m52_X12_letters ++ (wz_m58_X12_letters ++ (wz_m65_X12_letters ++ (wz_m70_X12_letters ++ (wz_m76_X12_letters ++ (wz_m82_X12_letters ++ (wz_m89_X12_letters ++ (wz_m96_X12_letters ++ (wz_m103_X12_letters ++ (wz_m111_X12_begins ++ (wz_m112_X12_keepsRow ++ ([] : List Cond))))))))))))))))))))
theorem zg_m21_X12_init : ∀ w ∈ wz_m21_X12_init, goodWord w = true := zg_cons rfl (zg_app (by decide +kernel) (zg_app zgU_wsX120 (zg_app zg_m22_X12_plain (zg_app zg_m23_X12_plain (zg_app zg_m24_X12_letters (zg_app zg_m32_X12_letters (zg_app zg_m39_X12_letters (zg_app zg_m45_X12_letters (zg_app zg_m52_X12_letters (zg_app zg_m58_X12_letters (zg_app zg_m65_X12_letters (zg_app zg_m70_X12_letters (zg_app zg_m76_X12_letters (zg_app zg_m82_X12_letters (zg_app zg_m89_X12_letters (zg_app zg_m96_X12_letters (zg_app zg_m103_X12_letters (zg_app zg_m111_X12_begins (zg_app zg_m112_X12_keepsRow zg_nil)))))))))))))))))))
theorem zi_m21_X12_init : ∀ w ∈ wz_m21_X12_init, w ∈ lw_tbl := zi_cons zw_1359 (zi_app (zi_cons zw_1360 (zi_cons zw_127 (zi_cons zw_128 (zi_cons zw_793 (zi_cons zw_1380 (zi_cons zw_1382 (zi_cons zw_162 (zi_cons zw_1384 (zi_cons zw_1385 (zi_cons zw_1386 (zi_cons zw_1544 (zi_cons zw_1387 (zi_cons zw_1388 (zi_cons zw_1395 (zi_cons zw_1403 (zi_cons zw_1404 (zi_cons zw_1405 (zi_cons zw_1406 (zi_cons zw_1407 (zi_cons zw_1408 (zi_cons zw_1409 (zi_cons zw_1410 (zi_cons zw_1411 (zi_cons zw_1412 (zi_cons zw_1413 (zi_cons zw_1414 (zi_cons zw_1416 (zi_cons zw_1417 (zi_cons zw_1418 (zi_cons zw_1423 (zi_cons zw_1424 (zi_cons zw_1426 (zi_cons zw_1427 (zi_cons zw_1429 (zi_cons zw_439 (zi_cons zw_1431 (zi_cons zw_1432 (zi_cons zw_1361 (zi_cons zw_1363 (zi_cons zw_44 (zi_cons zw_115 (zi_cons zw_1399 (zi_cons zw_1365 (zi_cons zw_1366 (zi_cons zw_1372 (zi_cons zw_1374 (zi_cons zw_45 (zi_cons zw_1376 (zi_cons zw_1378 (zi_cons zw_46 zi_nil)))))))))))))))))))))))))))))))))))))))))))))))))) (zi_app inX12 (zi_app zi_m22_X12_plain (zi_app zi_m23_X12_plain (zi_app zi_m24_X12_letters (zi_app zi_m32_X12_letters (zi_app zi_m39_X12_letters (zi_app zi_m45_X12_letters (zi_app zi_m52_X12_letters (zi_app zi_m58_X12_letters (zi_app zi_m65_X12_letters (zi_app zi_m70_X12_letters (zi_app zi_m76_X12_letters (zi_app zi_m82_X12_letters (zi_app zi_m89_X12_letters (zi_app zi_m96_X12_letters (zi_app zi_m103_X12_letters (zi_app zi_m111_X12_begins (zi_app zi_m112_X12_keepsRow zi_nil)))))))))))))))))))
set_option maxHeartbeats 4000000 in
set_option maxRecDepth 100000 in
theorem m21_X12_init (l : Launch) (D : va_G) (zt : Nat × Nat × Nat) (h0 : Nat) : GM l D zt [] yX12_init wz_m21_X12_init ({ frames := 2, cells := 29, slots := 14217, locals := 48 } : Room) [.ref h0] ([(h0, .inr (12, [.int 0, .null, .int 0, .null, .int 0, .null, .null, .null, .null, .null, .int 0, .int 0, .int 0, .int 0, .int 0, .int 0, .int 0, .int 0, .int 0, .int 0, .int 0, .int 0, .int 0, .int 0, .int 0, .null, .null, .null, .null, .null, .null, .null, .null, .null, .null, .null, .null, .int 0, .null, .null, .null, .int 0, .int 0, .int 0, .int 0, .null, .null, .int 0, .null, .null, .int 0, .null, .int 0, .null, .null]))]) (fun v ty' w' => ∃ (r : Nat → Nat), ∃ (g : Nat → ClassId), r 0 = h0 ∧ v = none ∧ ty' = tyM g ∧ w' = wM r g (upd iM0 14 (-1)) (up2 (up3 (up3 (up2 (up3 (up3 (up3 (up3 aM0 13 0 2) 16 0 8) 13 1 2) 16 1 8) 18 (cp (fun _ => 0) ((up3 (up3 (up3 (up3 aM0 13 0 2) 16 0 8) 13 1 2) 16 1 8) 18) 165)) 18 161 2) 18 164 8) 17 (cp ((up3 (up3 (up2 (up3 (up3 (up3 (up3 aM0 13 0 2) 16 0 8) 13 1 2) 16 1 8) 18 (cp (fun _ => 0) ((up3 (up3 (up3 (up3 aM0 13 0 2) 16 0 8) 13 1 2) 16 1 8) 18) 165)) 18 161 2) 18 164 8) 18) ((up3 (up3 (up2 (up3 (up3 (up3 (up3 aM0 13 0 2) 16 0 8) 13 1 2) 16 1 8) 18 (cp (fun _ => 0) ((up3 (up3 (up3 (up3 aM0 13 0 2) 16 0 8) 13 1 2) 16 1 8) 18) 165)) 18 161 2) 18 164 8) 17) 165)) (up3L (up3L (up3L (up3L (up3L (up3L (up3L (up3L (up3L (up3L (up3L (up3L (up3L lM0 6 0 275647447) 6 1 9451996) 6 2 40477) 6 3 6491892) 6 4 70517) 6 5 847604) 6 6 5146) 6 7 286880) 6 8 259565) 6 9 3379448) 6 10 9596021) 6 11 8740238) 6 12 282078293)) 29 14217 := by
  refine GM.of (cc := cX12_init) (maxL := 1) (ret := none) (own := RX12) (lv := [(0, .ref h0)]) (by decide) rfl rfl (Nat.le_of_ble_eq_true rfl) rfl (fun κ sz hk hR hN => ?_)
  have hin12 : ∀ w ∈ u_ws RX12 TX12 55, w ∈ wz_m21_X12_init := fun w h => (List.mem_cons_of_mem _ (List.mem_append_right _ (List.mem_append_left _ h)))
  refine g_aload_n hk dX12_init_0 rfl ?_
  refine g_objInit hk (List.mem_cons_of_mem _ (List.mem_append_left _ (List.mem_of_getElem? (i := 0) rfl))) (List.mem_cons_of_mem _ (List.mem_append_left _ (List.mem_of_getElem? (i := 1) rfl))) (List.mem_cons_of_mem _ (List.mem_append_left _ (List.mem_of_getElem? (i := 2) rfl))) (Nat.le_of_ble_eq_true rfl) (Nat.le_of_ble_eq_true rfl) dX12_init_1 ?_
  refine g_aload_n hk dX12_init_4 rfl ?_
  refine g_sipush (v := 2000) hk dX12_init_5 (by decide) ?_
  refine g_newa (N' := 2000) (atype := .byte) (ty := .byte) (a0 := (2000, .inl (fun _ => 0))) hk (List.mem_cons_of_mem _ (List.mem_append_left _ (List.mem_of_getElem? (i := 3) rfl))) rfl (fun cA => rfl) (by decide) (by decide) (Nat.le_of_ble_eq_true rfl) (Nat.le_of_ble_eq_true rfl) (Nat.le_of_ble_eq_true rfl) dX12_init_8 (fun q178 d179 hk => ?_)
  have hk : GC κ l D zt cX12_init 1 RX12 wz_m21_X12_init [(d179, .byte)] ({ frames := 2, cells := 29, slots := 14217, locals := 48 } : Room) := hk
  show GW κ 1 1 2000 ([(h0, .inr (12, [.int 0, .null, .int 0, .null, .int 0, .null, .null, .null, .null, .null, .int 0, .int 0, .int 0, .int 0, .int 0, .int 0, .int 0, .int 0, .int 0, .int 0, .int 0, .int 0, .int 0, .int 0, .int 0, .null, .null, .null, .null, .null, .null, .null, .null, .null, .null, .null, .null, .int 0, .null, .null, .null, .int 0, .int 0, .int 0, .int 0, .null, .null, .int 0, .null, .null, .int 0, .null, .int 0, .null, .null])), (q178, .inl (d179, 2000, .inl (fun _ => 0)))]) 10 [(0, .ref h0)] [.ref q178, .ref h0]
  refine g_putF (ws' := [(h0, .inr (12, [.int 0, .ref q178, .int 0, .null, .int 0, .null, .null, .null, .null, .null, .int 0, .int 0, .int 0, .int 0, .int 0, .int 0, .int 0, .int 0, .int 0, .int 0, .int 0, .int 0, .int 0, .int 0, .int 0, .null, .null, .null, .null, .null, .null, .null, .null, .null, .null, .null, .null, .int 0, .null, .null, .null, .int 0, .int 0, .int 0, .int 0, .null, .null, .int 0, .null, .null, .int 0, .null, .int 0, .null, .null])), (q178, .inl (d179, 2000, .inl (fun _ => 0)))]) hk (hN rfl) hin12 tyX12 tyX12_ok nmX12 0 rfl rfl 1 (by decide) (List.mem_cons_of_mem _ (List.mem_append_left _ (List.mem_of_getElem? (i := 4) rfl))) rfl rfl rfl rfl rfl (Nat.le_of_ble_eq_true rfl) rfl dX12_init_10 ?_
  refine g_aload_n hk dX12_init_13 rfl ?_
  refine g_sipush (v := 2000) hk dX12_init_14 (by decide) ?_
  refine g_newa (N' := 2000) (atype := .byte) (ty := .byte) (a0 := (2000, .inl (fun _ => 0))) hk (List.mem_cons_of_mem _ (List.mem_append_left _ (List.mem_of_getElem? (i := 3) rfl))) rfl (fun cA => rfl) (by decide) (by decide) (Nat.le_of_ble_eq_true rfl) (Nat.le_of_ble_eq_true rfl) (Nat.le_of_ble_eq_true rfl) dX12_init_17 (fun q180 d181 hk => ?_)
  have hk : GC κ l D zt cX12_init 1 RX12 wz_m21_X12_init [(d179, .byte), (d181, .byte)] ({ frames := 2, cells := 29, slots := 14217, locals := 48 } : Room) := hk
  show GW κ 1 2 4000 ([(h0, .inr (12, [.int 0, .ref q178, .int 0, .null, .int 0, .null, .null, .null, .null, .null, .int 0, .int 0, .int 0, .int 0, .int 0, .int 0, .int 0, .int 0, .int 0, .int 0, .int 0, .int 0, .int 0, .int 0, .int 0, .null, .null, .null, .null, .null, .null, .null, .null, .null, .null, .null, .null, .int 0, .null, .null, .null, .int 0, .int 0, .int 0, .int 0, .null, .null, .int 0, .null, .null, .int 0, .null, .int 0, .null, .null])), (q178, .inl (d179, 2000, .inl (fun _ => 0))), (q180, .inl (d181, 2000, .inl (fun _ => 0)))]) 19 [(0, .ref h0)] [.ref q180, .ref h0]
  refine g_putF (ws' := [(h0, .inr (12, [.int 0, .ref q178, .int 0, .ref q180, .int 0, .null, .null, .null, .null, .null, .int 0, .int 0, .int 0, .int 0, .int 0, .int 0, .int 0, .int 0, .int 0, .int 0, .int 0, .int 0, .int 0, .int 0, .int 0, .null, .null, .null, .null, .null, .null, .null, .null, .null, .null, .null, .null, .int 0, .null, .null, .null, .int 0, .int 0, .int 0, .int 0, .null, .null, .int 0, .null, .null, .int 0, .null, .int 0, .null, .null])), (q178, .inl (d179, 2000, .inl (fun _ => 0))), (q180, .inl (d181, 2000, .inl (fun _ => 0)))]) hk (hN rfl) hin12 tyX12 tyX12_ok nmX12 0 rfl rfl 3 (by decide) (List.mem_cons_of_mem _ (List.mem_append_left _ (List.mem_of_getElem? (i := 5) rfl))) rfl rfl rfl rfl rfl (Nat.le_of_ble_eq_true rfl) rfl dX12_init_19 ?_
  refine g_aload_n hk dX12_init_22 rfl ?_
  refine g_sipush (v := 403) hk dX12_init_23 (by decide) ?_
  refine g_newa (N' := 403) (atype := .int) (ty := .int) (a0 := (403, .inl (fun _ => 0))) hk (List.mem_cons_of_mem _ (List.mem_append_left _ (List.mem_of_getElem? (i := 6) rfl))) rfl (fun cA => rfl) (by decide) (by decide) (Nat.le_of_ble_eq_true rfl) (Nat.le_of_ble_eq_true rfl) (Nat.le_of_ble_eq_true rfl) dX12_init_26 (fun q182 d183 hk => ?_)
  have hk : GC κ l D zt cX12_init 1 RX12 wz_m21_X12_init [(d179, .byte), (d181, .byte), (d183, .int)] ({ frames := 2, cells := 29, slots := 14217, locals := 48 } : Room) := hk
  show GW κ 1 3 4403 ([(h0, .inr (12, [.int 0, .ref q178, .int 0, .ref q180, .int 0, .null, .null, .null, .null, .null, .int 0, .int 0, .int 0, .int 0, .int 0, .int 0, .int 0, .int 0, .int 0, .int 0, .int 0, .int 0, .int 0, .int 0, .int 0, .null, .null, .null, .null, .null, .null, .null, .null, .null, .null, .null, .null, .int 0, .null, .null, .null, .int 0, .int 0, .int 0, .int 0, .null, .null, .int 0, .null, .null, .int 0, .null, .int 0, .null, .null])), (q178, .inl (d179, 2000, .inl (fun _ => 0))), (q180, .inl (d181, 2000, .inl (fun _ => 0))), (q182, .inl (d183, 403, .inl (fun _ => 0)))]) 28 [(0, .ref h0)] [.ref q182, .ref h0]
  refine g_putF (ws' := [(h0, .inr (12, [.int 0, .ref q178, .int 0, .ref q180, .int 0, .ref q182, .null, .null, .null, .null, .int 0, .int 0, .int 0, .int 0, .int 0, .int 0, .int 0, .int 0, .int 0, .int 0, .int 0, .int 0, .int 0, .int 0, .int 0, .null, .null, .null, .null, .null, .null, .null, .null, .null, .null, .null, .null, .int 0, .null, .null, .null, .int 0, .int 0, .int 0, .int 0, .null, .null, .int 0, .null, .null, .int 0, .null, .int 0, .null, .null])), (q178, .inl (d179, 2000, .inl (fun _ => 0))), (q180, .inl (d181, 2000, .inl (fun _ => 0))), (q182, .inl (d183, 403, .inl (fun _ => 0)))]) hk (hN rfl) hin12 tyX12 tyX12_ok nmX12 0 rfl rfl 5 (by decide) (List.mem_cons_of_mem _ (List.mem_append_left _ (List.mem_of_getElem? (i := 7) rfl))) rfl rfl rfl rfl rfl (Nat.le_of_ble_eq_true rfl) rfl dX12_init_28 ?_
  refine g_aload_n hk dX12_init_31 rfl ?_
  refine g_sipush (v := 403) hk dX12_init_32 (by decide) ?_
  refine g_newa (N' := 403) (atype := .int) (ty := .int) (a0 := (403, .inl (fun _ => 0))) hk (List.mem_cons_of_mem _ (List.mem_append_left _ (List.mem_of_getElem? (i := 6) rfl))) rfl (fun cA => rfl) (by decide) (by decide) (Nat.le_of_ble_eq_true rfl) (Nat.le_of_ble_eq_true rfl) (Nat.le_of_ble_eq_true rfl) dX12_init_35 (fun q184 d185 hk => ?_)
  have hk : GC κ l D zt cX12_init 1 RX12 wz_m21_X12_init [(d179, .byte), (d181, .byte), (d183, .int), (d185, .int)] ({ frames := 2, cells := 29, slots := 14217, locals := 48 } : Room) := hk
  show GW κ 1 4 4806 ([(h0, .inr (12, [.int 0, .ref q178, .int 0, .ref q180, .int 0, .ref q182, .null, .null, .null, .null, .int 0, .int 0, .int 0, .int 0, .int 0, .int 0, .int 0, .int 0, .int 0, .int 0, .int 0, .int 0, .int 0, .int 0, .int 0, .null, .null, .null, .null, .null, .null, .null, .null, .null, .null, .null, .null, .int 0, .null, .null, .null, .int 0, .int 0, .int 0, .int 0, .null, .null, .int 0, .null, .null, .int 0, .null, .int 0, .null, .null])), (q178, .inl (d179, 2000, .inl (fun _ => 0))), (q180, .inl (d181, 2000, .inl (fun _ => 0))), (q182, .inl (d183, 403, .inl (fun _ => 0))), (q184, .inl (d185, 403, .inl (fun _ => 0)))]) 37 [(0, .ref h0)] [.ref q184, .ref h0]
  refine g_putF (ws' := [(h0, .inr (12, [.int 0, .ref q178, .int 0, .ref q180, .int 0, .ref q182, .ref q184, .null, .null, .null, .int 0, .int 0, .int 0, .int 0, .int 0, .int 0, .int 0, .int 0, .int 0, .int 0, .int 0, .int 0, .int 0, .int 0, .int 0, .null, .null, .null, .null, .null, .null, .null, .null, .null, .null, .null, .null, .int 0, .null, .null, .null, .int 0, .int 0, .int 0, .int 0, .null, .null, .int 0, .null, .null, .int 0, .null, .int 0, .null, .null])), (q178, .inl (d179, 2000, .inl (fun _ => 0))), (q180, .inl (d181, 2000, .inl (fun _ => 0))), (q182, .inl (d183, 403, .inl (fun _ => 0))), (q184, .inl (d185, 403, .inl (fun _ => 0)))]) hk (hN rfl) hin12 tyX12 tyX12_ok nmX12 0 rfl rfl 6 (by decide) (List.mem_cons_of_mem _ (List.mem_append_left _ (List.mem_of_getElem? (i := 8) rfl))) rfl rfl rfl rfl rfl (Nat.le_of_ble_eq_true rfl) rfl dX12_init_37 ?_
  refine g_aload_n hk dX12_init_40 rfl ?_
  refine g_sipush (v := 403) hk dX12_init_41 (by decide) ?_
  refine g_newa (N' := 403) (atype := .int) (ty := .int) (a0 := (403, .inl (fun _ => 0))) hk (List.mem_cons_of_mem _ (List.mem_append_left _ (List.mem_of_getElem? (i := 6) rfl))) rfl (fun cA => rfl) (by decide) (by decide) (Nat.le_of_ble_eq_true rfl) (Nat.le_of_ble_eq_true rfl) (Nat.le_of_ble_eq_true rfl) dX12_init_44 (fun q186 d187 hk => ?_)
  have hk : GC κ l D zt cX12_init 1 RX12 wz_m21_X12_init [(d179, .byte), (d181, .byte), (d183, .int), (d185, .int), (d187, .int)] ({ frames := 2, cells := 29, slots := 14217, locals := 48 } : Room) := hk
  show GW κ 1 5 5209 ([(h0, .inr (12, [.int 0, .ref q178, .int 0, .ref q180, .int 0, .ref q182, .ref q184, .null, .null, .null, .int 0, .int 0, .int 0, .int 0, .int 0, .int 0, .int 0, .int 0, .int 0, .int 0, .int 0, .int 0, .int 0, .int 0, .int 0, .null, .null, .null, .null, .null, .null, .null, .null, .null, .null, .null, .null, .int 0, .null, .null, .null, .int 0, .int 0, .int 0, .int 0, .null, .null, .int 0, .null, .null, .int 0, .null, .int 0, .null, .null])), (q178, .inl (d179, 2000, .inl (fun _ => 0))), (q180, .inl (d181, 2000, .inl (fun _ => 0))), (q182, .inl (d183, 403, .inl (fun _ => 0))), (q184, .inl (d185, 403, .inl (fun _ => 0))), (q186, .inl (d187, 403, .inl (fun _ => 0)))]) 46 [(0, .ref h0)] [.ref q186, .ref h0]
  refine g_putF (ws' := [(h0, .inr (12, [.int 0, .ref q178, .int 0, .ref q180, .int 0, .ref q182, .ref q184, .ref q186, .null, .null, .int 0, .int 0, .int 0, .int 0, .int 0, .int 0, .int 0, .int 0, .int 0, .int 0, .int 0, .int 0, .int 0, .int 0, .int 0, .null, .null, .null, .null, .null, .null, .null, .null, .null, .null, .null, .null, .int 0, .null, .null, .null, .int 0, .int 0, .int 0, .int 0, .null, .null, .int 0, .null, .null, .int 0, .null, .int 0, .null, .null])), (q178, .inl (d179, 2000, .inl (fun _ => 0))), (q180, .inl (d181, 2000, .inl (fun _ => 0))), (q182, .inl (d183, 403, .inl (fun _ => 0))), (q184, .inl (d185, 403, .inl (fun _ => 0))), (q186, .inl (d187, 403, .inl (fun _ => 0)))]) hk (hN rfl) hin12 tyX12 tyX12_ok nmX12 0 rfl rfl 7 (by decide) (List.mem_cons_of_mem _ (List.mem_append_left _ (List.mem_of_getElem? (i := 9) rfl))) rfl rfl rfl rfl rfl (Nat.le_of_ble_eq_true rfl) rfl dX12_init_46 ?_
  refine g_aload_n hk dX12_init_49 rfl ?_
  refine g_sipush (v := 403) hk dX12_init_50 (by decide) ?_
  refine g_newa (N' := 403) (atype := .long) (ty := .long) (a0 := (403, .inr (.inl (fun _ => 0)))) hk (List.mem_cons_of_mem _ (List.mem_append_left _ (List.mem_of_getElem? (i := 10) rfl))) rfl (fun cA => rfl) (by decide) (by decide) (Nat.le_of_ble_eq_true rfl) (Nat.le_of_ble_eq_true rfl) (Nat.le_of_ble_eq_true rfl) dX12_init_53 (fun q188 d189 hk => ?_)
  have hk : GC κ l D zt cX12_init 1 RX12 wz_m21_X12_init [(d179, .byte), (d181, .byte), (d183, .int), (d185, .int), (d187, .int), (d189, .long)] ({ frames := 2, cells := 29, slots := 14217, locals := 48 } : Room) := hk
  show GW κ 1 6 5612 ([(h0, .inr (12, [.int 0, .ref q178, .int 0, .ref q180, .int 0, .ref q182, .ref q184, .ref q186, .null, .null, .int 0, .int 0, .int 0, .int 0, .int 0, .int 0, .int 0, .int 0, .int 0, .int 0, .int 0, .int 0, .int 0, .int 0, .int 0, .null, .null, .null, .null, .null, .null, .null, .null, .null, .null, .null, .null, .int 0, .null, .null, .null, .int 0, .int 0, .int 0, .int 0, .null, .null, .int 0, .null, .null, .int 0, .null, .int 0, .null, .null])), (q178, .inl (d179, 2000, .inl (fun _ => 0))), (q180, .inl (d181, 2000, .inl (fun _ => 0))), (q182, .inl (d183, 403, .inl (fun _ => 0))), (q184, .inl (d185, 403, .inl (fun _ => 0))), (q186, .inl (d187, 403, .inl (fun _ => 0))), (q188, .inl (d189, 403, .inr (.inl (fun _ => 0))))]) 55 [(0, .ref h0)] [.ref q188, .ref h0]
  refine g_putF (ws' := [(h0, .inr (12, [.int 0, .ref q178, .int 0, .ref q180, .int 0, .ref q182, .ref q184, .ref q186, .ref q188, .null, .int 0, .int 0, .int 0, .int 0, .int 0, .int 0, .int 0, .int 0, .int 0, .int 0, .int 0, .int 0, .int 0, .int 0, .int 0, .null, .null, .null, .null, .null, .null, .null, .null, .null, .null, .null, .null, .int 0, .null, .null, .null, .int 0, .int 0, .int 0, .int 0, .null, .null, .int 0, .null, .null, .int 0, .null, .int 0, .null, .null])), (q178, .inl (d179, 2000, .inl (fun _ => 0))), (q180, .inl (d181, 2000, .inl (fun _ => 0))), (q182, .inl (d183, 403, .inl (fun _ => 0))), (q184, .inl (d185, 403, .inl (fun _ => 0))), (q186, .inl (d187, 403, .inl (fun _ => 0))), (q188, .inl (d189, 403, .inr (.inl (fun _ => 0))))]) hk (hN rfl) hin12 tyX12 tyX12_ok nmX12 0 rfl rfl 8 (by decide) (List.mem_cons_of_mem _ (List.mem_append_left _ (List.mem_of_getElem? (i := 11) rfl))) rfl rfl rfl rfl rfl (Nat.le_of_ble_eq_true rfl) rfl dX12_init_55 ?_
  refine g_aload_n hk dX12_init_58 rfl ?_
  refine g_bipush (v := 13) hk dX12_init_59 (by decide) ?_
  refine g_newa (N' := 13) (atype := .long) (ty := .long) (a0 := (13, .inr (.inl (fun _ => 0)))) hk (List.mem_cons_of_mem _ (List.mem_append_left _ (List.mem_of_getElem? (i := 10) rfl))) rfl (fun cA => rfl) (by decide) (by decide) (Nat.le_of_ble_eq_true rfl) (Nat.le_of_ble_eq_true rfl) (Nat.le_of_ble_eq_true rfl) dX12_init_61 (fun q190 d191 hk => ?_)
  have hk : GC κ l D zt cX12_init 1 RX12 wz_m21_X12_init [(d179, .byte), (d181, .byte), (d183, .int), (d185, .int), (d187, .int), (d189, .long), (d191, .long)] ({ frames := 2, cells := 29, slots := 14217, locals := 48 } : Room) := hk
  show GW κ 1 7 5625 ([(h0, .inr (12, [.int 0, .ref q178, .int 0, .ref q180, .int 0, .ref q182, .ref q184, .ref q186, .ref q188, .null, .int 0, .int 0, .int 0, .int 0, .int 0, .int 0, .int 0, .int 0, .int 0, .int 0, .int 0, .int 0, .int 0, .int 0, .int 0, .null, .null, .null, .null, .null, .null, .null, .null, .null, .null, .null, .null, .int 0, .null, .null, .null, .int 0, .int 0, .int 0, .int 0, .null, .null, .int 0, .null, .null, .int 0, .null, .int 0, .null, .null])), (q178, .inl (d179, 2000, .inl (fun _ => 0))), (q180, .inl (d181, 2000, .inl (fun _ => 0))), (q182, .inl (d183, 403, .inl (fun _ => 0))), (q184, .inl (d185, 403, .inl (fun _ => 0))), (q186, .inl (d187, 403, .inl (fun _ => 0))), (q188, .inl (d189, 403, .inr (.inl (fun _ => 0)))), (q190, .inl (d191, 13, .inr (.inl (fun _ => 0))))]) 63 [(0, .ref h0)] [.ref q190, .ref h0]
  refine g_putF (ws' := [(h0, .inr (12, [.int 0, .ref q178, .int 0, .ref q180, .int 0, .ref q182, .ref q184, .ref q186, .ref q188, .ref q190, .int 0, .int 0, .int 0, .int 0, .int 0, .int 0, .int 0, .int 0, .int 0, .int 0, .int 0, .int 0, .int 0, .int 0, .int 0, .null, .null, .null, .null, .null, .null, .null, .null, .null, .null, .null, .null, .int 0, .null, .null, .null, .int 0, .int 0, .int 0, .int 0, .null, .null, .int 0, .null, .null, .int 0, .null, .int 0, .null, .null])), (q178, .inl (d179, 2000, .inl (fun _ => 0))), (q180, .inl (d181, 2000, .inl (fun _ => 0))), (q182, .inl (d183, 403, .inl (fun _ => 0))), (q184, .inl (d185, 403, .inl (fun _ => 0))), (q186, .inl (d187, 403, .inl (fun _ => 0))), (q188, .inl (d189, 403, .inr (.inl (fun _ => 0)))), (q190, .inl (d191, 13, .inr (.inl (fun _ => 0))))]) hk (hN rfl) hin12 tyX12 tyX12_ok nmX12 0 rfl rfl 9 (by decide) (List.mem_cons_of_mem _ (List.mem_append_left _ (List.mem_of_getElem? (i := 12) rfl))) rfl rfl rfl rfl rfl (Nat.le_of_ble_eq_true rfl) rfl dX12_init_63 ?_
  refine g_aload_n hk dX12_init_66 rfl ?_
  refine g_iconst (v := (-1)) hk dX12_init_67 (by decide) ?_
  refine g_put (ws' := [(h0, .inr (12, [.int 0, .ref q178, .int 0, .ref q180, .int 0, .ref q182, .ref q184, .ref q186, .ref q188, .ref q190, .int 0, .int 0, .int 0, .int 0, .int 0, .int 0, .int 0, .int (-1), .int 0, .int 0, .int 0, .int 0, .int 0, .int 0, .int 0, .null, .null, .null, .null, .null, .null, .null, .null, .null, .null, .null, .null, .int 0, .null, .null, .null, .int 0, .int 0, .int 0, .int 0, .null, .null, .int 0, .null, .null, .int 0, .null, .int 0, .null, .null])), (q178, .inl (d179, 2000, .inl (fun _ => 0))), (q180, .inl (d181, 2000, .inl (fun _ => 0))), (q182, .inl (d183, 403, .inl (fun _ => 0))), (q184, .inl (d185, 403, .inl (fun _ => 0))), (q186, .inl (d187, 403, .inl (fun _ => 0))), (q188, .inl (d189, 403, .inr (.inl (fun _ => 0)))), (q190, .inl (d191, 13, .inr (.inl (fun _ => 0))))]) hk hin12 tyX12 tyX12_ok nmX12 0 rfl rfl 17 (by decide) (List.mem_cons_of_mem _ (List.mem_append_left _ (List.mem_of_getElem? (i := 13) rfl))) rfl rfl rfl rfl (Nat.le_of_ble_eq_true rfl) rfl dX12_init_68 ?_
  refine g_aload_n hk dX12_init_71 rfl ?_
  refine g_iconst (v := 5) hk dX12_init_72 (by decide) ?_
  refine g_newa (N' := 5) (atype := .long) (ty := .long) (a0 := (5, .inr (.inl (fun _ => 0)))) hk (List.mem_cons_of_mem _ (List.mem_append_left _ (List.mem_of_getElem? (i := 10) rfl))) rfl (fun cA => rfl) (by decide) (by decide) (Nat.le_of_ble_eq_true rfl) (Nat.le_of_ble_eq_true rfl) (Nat.le_of_ble_eq_true rfl) dX12_init_73 (fun q192 d193 hk => ?_)
  have hk : GC κ l D zt cX12_init 1 RX12 wz_m21_X12_init [(d179, .byte), (d181, .byte), (d183, .int), (d185, .int), (d187, .int), (d189, .long), (d191, .long), (d193, .long)] ({ frames := 2, cells := 29, slots := 14217, locals := 48 } : Room) := hk
  show GW κ 1 8 5630 ([(h0, .inr (12, [.int 0, .ref q178, .int 0, .ref q180, .int 0, .ref q182, .ref q184, .ref q186, .ref q188, .ref q190, .int 0, .int 0, .int 0, .int 0, .int 0, .int 0, .int 0, .int (-1), .int 0, .int 0, .int 0, .int 0, .int 0, .int 0, .int 0, .null, .null, .null, .null, .null, .null, .null, .null, .null, .null, .null, .null, .int 0, .null, .null, .null, .int 0, .int 0, .int 0, .int 0, .null, .null, .int 0, .null, .null, .int 0, .null, .int 0, .null, .null])), (q178, .inl (d179, 2000, .inl (fun _ => 0))), (q180, .inl (d181, 2000, .inl (fun _ => 0))), (q182, .inl (d183, 403, .inl (fun _ => 0))), (q184, .inl (d185, 403, .inl (fun _ => 0))), (q186, .inl (d187, 403, .inl (fun _ => 0))), (q188, .inl (d189, 403, .inr (.inl (fun _ => 0)))), (q190, .inl (d191, 13, .inr (.inl (fun _ => 0)))), (q192, .inl (d193, 5, .inr (.inl (fun _ => 0))))]) 75 [(0, .ref h0)] [.ref q192, .ref h0]
  refine g_putF (ws' := [(h0, .inr (12, [.int 0, .ref q178, .int 0, .ref q180, .int 0, .ref q182, .ref q184, .ref q186, .ref q188, .ref q190, .int 0, .int 0, .int 0, .int 0, .int 0, .int 0, .int 0, .int (-1), .int 0, .int 0, .int 0, .int 0, .int 0, .int 0, .int 0, .ref q192, .null, .null, .null, .null, .null, .null, .null, .null, .null, .null, .null, .int 0, .null, .null, .null, .int 0, .int 0, .int 0, .int 0, .null, .null, .int 0, .null, .null, .int 0, .null, .int 0, .null, .null])), (q178, .inl (d179, 2000, .inl (fun _ => 0))), (q180, .inl (d181, 2000, .inl (fun _ => 0))), (q182, .inl (d183, 403, .inl (fun _ => 0))), (q184, .inl (d185, 403, .inl (fun _ => 0))), (q186, .inl (d187, 403, .inl (fun _ => 0))), (q188, .inl (d189, 403, .inr (.inl (fun _ => 0)))), (q190, .inl (d191, 13, .inr (.inl (fun _ => 0)))), (q192, .inl (d193, 5, .inr (.inl (fun _ => 0))))]) hk (hN rfl) hin12 tyX12 tyX12_ok nmX12 0 rfl rfl 25 (by decide) (List.mem_cons_of_mem _ (List.mem_append_left _ (List.mem_of_getElem? (i := 14) rfl))) rfl rfl rfl rfl rfl (Nat.le_of_ble_eq_true rfl) rfl dX12_init_75 ?_
  refine g_aload_n hk dX12_init_78 rfl ?_
  refine g_iconst (v := 2) hk dX12_init_79 (by decide) ?_
  refine g_newa (N' := 2) (atype := .int) (ty := .int) (a0 := (2, .inl (fun _ => 0))) hk (List.mem_cons_of_mem _ (List.mem_append_left _ (List.mem_of_getElem? (i := 6) rfl))) rfl (fun cA => rfl) (by decide) (by decide) (Nat.le_of_ble_eq_true rfl) (Nat.le_of_ble_eq_true rfl) (Nat.le_of_ble_eq_true rfl) dX12_init_80 (fun q194 d195 hk => ?_)
  have hk : GC κ l D zt cX12_init 1 RX12 wz_m21_X12_init [(d179, .byte), (d181, .byte), (d183, .int), (d185, .int), (d187, .int), (d189, .long), (d191, .long), (d193, .long), (d195, .int)] ({ frames := 2, cells := 29, slots := 14217, locals := 48 } : Room) := hk
  show GW κ 1 9 5632 ([(h0, .inr (12, [.int 0, .ref q178, .int 0, .ref q180, .int 0, .ref q182, .ref q184, .ref q186, .ref q188, .ref q190, .int 0, .int 0, .int 0, .int 0, .int 0, .int 0, .int 0, .int (-1), .int 0, .int 0, .int 0, .int 0, .int 0, .int 0, .int 0, .ref q192, .null, .null, .null, .null, .null, .null, .null, .null, .null, .null, .null, .int 0, .null, .null, .null, .int 0, .int 0, .int 0, .int 0, .null, .null, .int 0, .null, .null, .int 0, .null, .int 0, .null, .null])), (q178, .inl (d179, 2000, .inl (fun _ => 0))), (q180, .inl (d181, 2000, .inl (fun _ => 0))), (q182, .inl (d183, 403, .inl (fun _ => 0))), (q184, .inl (d185, 403, .inl (fun _ => 0))), (q186, .inl (d187, 403, .inl (fun _ => 0))), (q188, .inl (d189, 403, .inr (.inl (fun _ => 0)))), (q190, .inl (d191, 13, .inr (.inl (fun _ => 0)))), (q192, .inl (d193, 5, .inr (.inl (fun _ => 0)))), (q194, .inl (d195, 2, .inl (fun _ => 0)))]) 82 [(0, .ref h0)] [.ref q194, .ref h0]
  refine g_putF (ws' := [(h0, .inr (12, [.int 0, .ref q178, .int 0, .ref q180, .int 0, .ref q182, .ref q184, .ref q186, .ref q188, .ref q190, .int 0, .int 0, .int 0, .int 0, .int 0, .int 0, .int 0, .int (-1), .int 0, .int 0, .int 0, .int 0, .int 0, .int 0, .int 0, .ref q192, .ref q194, .null, .null, .null, .null, .null, .null, .null, .null, .null, .null, .int 0, .null, .null, .null, .int 0, .int 0, .int 0, .int 0, .null, .null, .int 0, .null, .null, .int 0, .null, .int 0, .null, .null])), (q178, .inl (d179, 2000, .inl (fun _ => 0))), (q180, .inl (d181, 2000, .inl (fun _ => 0))), (q182, .inl (d183, 403, .inl (fun _ => 0))), (q184, .inl (d185, 403, .inl (fun _ => 0))), (q186, .inl (d187, 403, .inl (fun _ => 0))), (q188, .inl (d189, 403, .inr (.inl (fun _ => 0)))), (q190, .inl (d191, 13, .inr (.inl (fun _ => 0)))), (q192, .inl (d193, 5, .inr (.inl (fun _ => 0)))), (q194, .inl (d195, 2, .inl (fun _ => 0)))]) hk (hN rfl) hin12 tyX12 tyX12_ok nmX12 0 rfl rfl 26 (by decide) (List.mem_cons_of_mem _ (List.mem_append_left _ (List.mem_of_getElem? (i := 15) rfl))) rfl rfl rfl rfl rfl (Nat.le_of_ble_eq_true rfl) rfl dX12_init_82 ?_
  refine g_aload_n hk dX12_init_85 rfl ?_
  refine g_sipush (v := 320) hk dX12_init_86 (by decide) ?_
  refine g_newa (N' := 320) (atype := .int) (ty := .int) (a0 := (320, .inl (fun _ => 0))) hk (List.mem_cons_of_mem _ (List.mem_append_left _ (List.mem_of_getElem? (i := 6) rfl))) rfl (fun cA => rfl) (by decide) (by decide) (Nat.le_of_ble_eq_true rfl) (Nat.le_of_ble_eq_true rfl) (Nat.le_of_ble_eq_true rfl) dX12_init_89 (fun q196 d197 hk => ?_)
  have hk : GC κ l D zt cX12_init 1 RX12 wz_m21_X12_init [(d179, .byte), (d181, .byte), (d183, .int), (d185, .int), (d187, .int), (d189, .long), (d191, .long), (d193, .long), (d195, .int), (d197, .int)] ({ frames := 2, cells := 29, slots := 14217, locals := 48 } : Room) := hk
  show GW κ 1 10 5952 ([(h0, .inr (12, [.int 0, .ref q178, .int 0, .ref q180, .int 0, .ref q182, .ref q184, .ref q186, .ref q188, .ref q190, .int 0, .int 0, .int 0, .int 0, .int 0, .int 0, .int 0, .int (-1), .int 0, .int 0, .int 0, .int 0, .int 0, .int 0, .int 0, .ref q192, .ref q194, .null, .null, .null, .null, .null, .null, .null, .null, .null, .null, .int 0, .null, .null, .null, .int 0, .int 0, .int 0, .int 0, .null, .null, .int 0, .null, .null, .int 0, .null, .int 0, .null, .null])), (q178, .inl (d179, 2000, .inl (fun _ => 0))), (q180, .inl (d181, 2000, .inl (fun _ => 0))), (q182, .inl (d183, 403, .inl (fun _ => 0))), (q184, .inl (d185, 403, .inl (fun _ => 0))), (q186, .inl (d187, 403, .inl (fun _ => 0))), (q188, .inl (d189, 403, .inr (.inl (fun _ => 0)))), (q190, .inl (d191, 13, .inr (.inl (fun _ => 0)))), (q192, .inl (d193, 5, .inr (.inl (fun _ => 0)))), (q194, .inl (d195, 2, .inl (fun _ => 0))), (q196, .inl (d197, 320, .inl (fun _ => 0)))]) 91 [(0, .ref h0)] [.ref q196, .ref h0]
  refine g_putF (ws' := [(h0, .inr (12, [.int 0, .ref q178, .int 0, .ref q180, .int 0, .ref q182, .ref q184, .ref q186, .ref q188, .ref q190, .int 0, .int 0, .int 0, .int 0, .int 0, .int 0, .int 0, .int (-1), .int 0, .int 0, .int 0, .int 0, .int 0, .int 0, .int 0, .ref q192, .ref q194, .ref q196, .null, .null, .null, .null, .null, .null, .null, .null, .null, .int 0, .null, .null, .null, .int 0, .int 0, .int 0, .int 0, .null, .null, .int 0, .null, .null, .int 0, .null, .int 0, .null, .null])), (q178, .inl (d179, 2000, .inl (fun _ => 0))), (q180, .inl (d181, 2000, .inl (fun _ => 0))), (q182, .inl (d183, 403, .inl (fun _ => 0))), (q184, .inl (d185, 403, .inl (fun _ => 0))), (q186, .inl (d187, 403, .inl (fun _ => 0))), (q188, .inl (d189, 403, .inr (.inl (fun _ => 0)))), (q190, .inl (d191, 13, .inr (.inl (fun _ => 0)))), (q192, .inl (d193, 5, .inr (.inl (fun _ => 0)))), (q194, .inl (d195, 2, .inl (fun _ => 0))), (q196, .inl (d197, 320, .inl (fun _ => 0)))]) hk (hN rfl) hin12 tyX12 tyX12_ok nmX12 0 rfl rfl 27 (by decide) (List.mem_cons_of_mem _ (List.mem_append_left _ (List.mem_of_getElem? (i := 16) rfl))) rfl rfl rfl rfl rfl (Nat.le_of_ble_eq_true rfl) rfl dX12_init_91 ?_
  refine g_aload_n hk dX12_init_94 rfl ?_
  refine g_iconst (v := 2) hk dX12_init_95 (by decide) ?_
  refine g_newa (N' := 2) (atype := .int) (ty := .int) (a0 := (2, .inl (fun _ => 0))) hk (List.mem_cons_of_mem _ (List.mem_append_left _ (List.mem_of_getElem? (i := 6) rfl))) rfl (fun cA => rfl) (by decide) (by decide) (Nat.le_of_ble_eq_true rfl) (Nat.le_of_ble_eq_true rfl) (Nat.le_of_ble_eq_true rfl) dX12_init_96 (fun q198 d199 hk => ?_)
  have hk : GC κ l D zt cX12_init 1 RX12 wz_m21_X12_init [(d179, .byte), (d181, .byte), (d183, .int), (d185, .int), (d187, .int), (d189, .long), (d191, .long), (d193, .long), (d195, .int), (d197, .int), (d199, .int)] ({ frames := 2, cells := 29, slots := 14217, locals := 48 } : Room) := hk
  show GW κ 1 11 5954 ([(h0, .inr (12, [.int 0, .ref q178, .int 0, .ref q180, .int 0, .ref q182, .ref q184, .ref q186, .ref q188, .ref q190, .int 0, .int 0, .int 0, .int 0, .int 0, .int 0, .int 0, .int (-1), .int 0, .int 0, .int 0, .int 0, .int 0, .int 0, .int 0, .ref q192, .ref q194, .ref q196, .null, .null, .null, .null, .null, .null, .null, .null, .null, .int 0, .null, .null, .null, .int 0, .int 0, .int 0, .int 0, .null, .null, .int 0, .null, .null, .int 0, .null, .int 0, .null, .null])), (q178, .inl (d179, 2000, .inl (fun _ => 0))), (q180, .inl (d181, 2000, .inl (fun _ => 0))), (q182, .inl (d183, 403, .inl (fun _ => 0))), (q184, .inl (d185, 403, .inl (fun _ => 0))), (q186, .inl (d187, 403, .inl (fun _ => 0))), (q188, .inl (d189, 403, .inr (.inl (fun _ => 0)))), (q190, .inl (d191, 13, .inr (.inl (fun _ => 0)))), (q192, .inl (d193, 5, .inr (.inl (fun _ => 0)))), (q194, .inl (d195, 2, .inl (fun _ => 0))), (q196, .inl (d197, 320, .inl (fun _ => 0))), (q198, .inl (d199, 2, .inl (fun _ => 0)))]) 98 [(0, .ref h0)] [.ref q198, .ref h0]
  refine g_putF (ws' := [(h0, .inr (12, [.int 0, .ref q178, .int 0, .ref q180, .int 0, .ref q182, .ref q184, .ref q186, .ref q188, .ref q190, .int 0, .int 0, .int 0, .int 0, .int 0, .int 0, .int 0, .int (-1), .int 0, .int 0, .int 0, .int 0, .int 0, .int 0, .int 0, .ref q192, .ref q194, .ref q196, .ref q198, .null, .null, .null, .null, .null, .null, .null, .null, .int 0, .null, .null, .null, .int 0, .int 0, .int 0, .int 0, .null, .null, .int 0, .null, .null, .int 0, .null, .int 0, .null, .null])), (q178, .inl (d179, 2000, .inl (fun _ => 0))), (q180, .inl (d181, 2000, .inl (fun _ => 0))), (q182, .inl (d183, 403, .inl (fun _ => 0))), (q184, .inl (d185, 403, .inl (fun _ => 0))), (q186, .inl (d187, 403, .inl (fun _ => 0))), (q188, .inl (d189, 403, .inr (.inl (fun _ => 0)))), (q190, .inl (d191, 13, .inr (.inl (fun _ => 0)))), (q192, .inl (d193, 5, .inr (.inl (fun _ => 0)))), (q194, .inl (d195, 2, .inl (fun _ => 0))), (q196, .inl (d197, 320, .inl (fun _ => 0))), (q198, .inl (d199, 2, .inl (fun _ => 0)))]) hk (hN rfl) hin12 tyX12 tyX12_ok nmX12 0 rfl rfl 28 (by decide) (List.mem_cons_of_mem _ (List.mem_append_left _ (List.mem_of_getElem? (i := 17) rfl))) rfl rfl rfl rfl rfl (Nat.le_of_ble_eq_true rfl) rfl dX12_init_98 ?_
  refine g_aload_n hk dX12_init_101 rfl ?_
  refine g_bipush (v := 10) hk dX12_init_102 (by decide) ?_
  refine g_newa (N' := 10) (atype := .int) (ty := .int) (a0 := (10, .inl (fun _ => 0))) hk (List.mem_cons_of_mem _ (List.mem_append_left _ (List.mem_of_getElem? (i := 6) rfl))) rfl (fun cA => rfl) (by decide) (by decide) (Nat.le_of_ble_eq_true rfl) (Nat.le_of_ble_eq_true rfl) (Nat.le_of_ble_eq_true rfl) dX12_init_104 (fun q200 d201 hk => ?_)
  have hk : GC κ l D zt cX12_init 1 RX12 wz_m21_X12_init [(d179, .byte), (d181, .byte), (d183, .int), (d185, .int), (d187, .int), (d189, .long), (d191, .long), (d193, .long), (d195, .int), (d197, .int), (d199, .int), (d201, .int)] ({ frames := 2, cells := 29, slots := 14217, locals := 48 } : Room) := hk
  show GW κ 1 12 5964 ([(h0, .inr (12, [.int 0, .ref q178, .int 0, .ref q180, .int 0, .ref q182, .ref q184, .ref q186, .ref q188, .ref q190, .int 0, .int 0, .int 0, .int 0, .int 0, .int 0, .int 0, .int (-1), .int 0, .int 0, .int 0, .int 0, .int 0, .int 0, .int 0, .ref q192, .ref q194, .ref q196, .ref q198, .null, .null, .null, .null, .null, .null, .null, .null, .int 0, .null, .null, .null, .int 0, .int 0, .int 0, .int 0, .null, .null, .int 0, .null, .null, .int 0, .null, .int 0, .null, .null])), (q178, .inl (d179, 2000, .inl (fun _ => 0))), (q180, .inl (d181, 2000, .inl (fun _ => 0))), (q182, .inl (d183, 403, .inl (fun _ => 0))), (q184, .inl (d185, 403, .inl (fun _ => 0))), (q186, .inl (d187, 403, .inl (fun _ => 0))), (q188, .inl (d189, 403, .inr (.inl (fun _ => 0)))), (q190, .inl (d191, 13, .inr (.inl (fun _ => 0)))), (q192, .inl (d193, 5, .inr (.inl (fun _ => 0)))), (q194, .inl (d195, 2, .inl (fun _ => 0))), (q196, .inl (d197, 320, .inl (fun _ => 0))), (q198, .inl (d199, 2, .inl (fun _ => 0))), (q200, .inl (d201, 10, .inl (fun _ => 0)))]) 106 [(0, .ref h0)] [.ref q200, .ref h0]
  refine g_putF (ws' := [(h0, .inr (12, [.int 0, .ref q178, .int 0, .ref q180, .int 0, .ref q182, .ref q184, .ref q186, .ref q188, .ref q190, .int 0, .int 0, .int 0, .int 0, .int 0, .int 0, .int 0, .int (-1), .int 0, .int 0, .int 0, .int 0, .int 0, .int 0, .int 0, .ref q192, .ref q194, .ref q196, .ref q198, .ref q200, .null, .null, .null, .null, .null, .null, .null, .int 0, .null, .null, .null, .int 0, .int 0, .int 0, .int 0, .null, .null, .int 0, .null, .null, .int 0, .null, .int 0, .null, .null])), (q178, .inl (d179, 2000, .inl (fun _ => 0))), (q180, .inl (d181, 2000, .inl (fun _ => 0))), (q182, .inl (d183, 403, .inl (fun _ => 0))), (q184, .inl (d185, 403, .inl (fun _ => 0))), (q186, .inl (d187, 403, .inl (fun _ => 0))), (q188, .inl (d189, 403, .inr (.inl (fun _ => 0)))), (q190, .inl (d191, 13, .inr (.inl (fun _ => 0)))), (q192, .inl (d193, 5, .inr (.inl (fun _ => 0)))), (q194, .inl (d195, 2, .inl (fun _ => 0))), (q196, .inl (d197, 320, .inl (fun _ => 0))), (q198, .inl (d199, 2, .inl (fun _ => 0))), (q200, .inl (d201, 10, .inl (fun _ => 0)))]) hk (hN rfl) hin12 tyX12 tyX12_ok nmX12 0 rfl rfl 29 (by decide) (List.mem_cons_of_mem _ (List.mem_append_left _ (List.mem_of_getElem? (i := 18) rfl))) rfl rfl rfl rfl rfl (Nat.le_of_ble_eq_true rfl) rfl dX12_init_106 ?_
  refine g_aload_n hk dX12_init_109 rfl ?_
  refine g_sipush (v := 160) hk dX12_init_110 (by decide) ?_
  refine g_newa (N' := 160) (atype := .int) (ty := .int) (a0 := (160, .inl (fun _ => 0))) hk (List.mem_cons_of_mem _ (List.mem_append_left _ (List.mem_of_getElem? (i := 6) rfl))) rfl (fun cA => rfl) (by decide) (by decide) (Nat.le_of_ble_eq_true rfl) (Nat.le_of_ble_eq_true rfl) (Nat.le_of_ble_eq_true rfl) dX12_init_113 (fun q202 d203 hk => ?_)
  have hk : GC κ l D zt cX12_init 1 RX12 wz_m21_X12_init [(d179, .byte), (d181, .byte), (d183, .int), (d185, .int), (d187, .int), (d189, .long), (d191, .long), (d193, .long), (d195, .int), (d197, .int), (d199, .int), (d201, .int), (d203, .int)] ({ frames := 2, cells := 29, slots := 14217, locals := 48 } : Room) := hk
  show GW κ 1 13 6124 ([(h0, .inr (12, [.int 0, .ref q178, .int 0, .ref q180, .int 0, .ref q182, .ref q184, .ref q186, .ref q188, .ref q190, .int 0, .int 0, .int 0, .int 0, .int 0, .int 0, .int 0, .int (-1), .int 0, .int 0, .int 0, .int 0, .int 0, .int 0, .int 0, .ref q192, .ref q194, .ref q196, .ref q198, .ref q200, .null, .null, .null, .null, .null, .null, .null, .int 0, .null, .null, .null, .int 0, .int 0, .int 0, .int 0, .null, .null, .int 0, .null, .null, .int 0, .null, .int 0, .null, .null])), (q178, .inl (d179, 2000, .inl (fun _ => 0))), (q180, .inl (d181, 2000, .inl (fun _ => 0))), (q182, .inl (d183, 403, .inl (fun _ => 0))), (q184, .inl (d185, 403, .inl (fun _ => 0))), (q186, .inl (d187, 403, .inl (fun _ => 0))), (q188, .inl (d189, 403, .inr (.inl (fun _ => 0)))), (q190, .inl (d191, 13, .inr (.inl (fun _ => 0)))), (q192, .inl (d193, 5, .inr (.inl (fun _ => 0)))), (q194, .inl (d195, 2, .inl (fun _ => 0))), (q196, .inl (d197, 320, .inl (fun _ => 0))), (q198, .inl (d199, 2, .inl (fun _ => 0))), (q200, .inl (d201, 10, .inl (fun _ => 0))), (q202, .inl (d203, 160, .inl (fun _ => 0)))]) 115 [(0, .ref h0)] [.ref q202, .ref h0]
  refine g_putF (ws' := [(h0, .inr (12, [.int 0, .ref q178, .int 0, .ref q180, .int 0, .ref q182, .ref q184, .ref q186, .ref q188, .ref q190, .int 0, .int 0, .int 0, .int 0, .int 0, .int 0, .int 0, .int (-1), .int 0, .int 0, .int 0, .int 0, .int 0, .int 0, .int 0, .ref q192, .ref q194, .ref q196, .ref q198, .ref q200, .ref q202, .null, .null, .null, .null, .null, .null, .int 0, .null, .null, .null, .int 0, .int 0, .int 0, .int 0, .null, .null, .int 0, .null, .null, .int 0, .null, .int 0, .null, .null])), (q178, .inl (d179, 2000, .inl (fun _ => 0))), (q180, .inl (d181, 2000, .inl (fun _ => 0))), (q182, .inl (d183, 403, .inl (fun _ => 0))), (q184, .inl (d185, 403, .inl (fun _ => 0))), (q186, .inl (d187, 403, .inl (fun _ => 0))), (q188, .inl (d189, 403, .inr (.inl (fun _ => 0)))), (q190, .inl (d191, 13, .inr (.inl (fun _ => 0)))), (q192, .inl (d193, 5, .inr (.inl (fun _ => 0)))), (q194, .inl (d195, 2, .inl (fun _ => 0))), (q196, .inl (d197, 320, .inl (fun _ => 0))), (q198, .inl (d199, 2, .inl (fun _ => 0))), (q200, .inl (d201, 10, .inl (fun _ => 0))), (q202, .inl (d203, 160, .inl (fun _ => 0)))]) hk (hN rfl) hin12 tyX12 tyX12_ok nmX12 0 rfl rfl 30 (by decide) (List.mem_cons_of_mem _ (List.mem_append_left _ (List.mem_of_getElem? (i := 19) rfl))) rfl rfl rfl rfl rfl (Nat.le_of_ble_eq_true rfl) rfl dX12_init_115 ?_
  refine g_aload_n hk dX12_init_118 rfl ?_
  refine g_iconst (v := 2) hk dX12_init_119 (by decide) ?_
  refine g_newa (N' := 2) (atype := .int) (ty := .int) (a0 := (2, .inl (fun _ => 0))) hk (List.mem_cons_of_mem _ (List.mem_append_left _ (List.mem_of_getElem? (i := 6) rfl))) rfl (fun cA => rfl) (by decide) (by decide) (Nat.le_of_ble_eq_true rfl) (Nat.le_of_ble_eq_true rfl) (Nat.le_of_ble_eq_true rfl) dX12_init_120 (fun q204 d205 hk => ?_)
  have hk : GC κ l D zt cX12_init 1 RX12 wz_m21_X12_init [(d179, .byte), (d181, .byte), (d183, .int), (d185, .int), (d187, .int), (d189, .long), (d191, .long), (d193, .long), (d195, .int), (d197, .int), (d199, .int), (d201, .int), (d203, .int), (d205, .int)] ({ frames := 2, cells := 29, slots := 14217, locals := 48 } : Room) := hk
  show GW κ 1 14 6126 ([(h0, .inr (12, [.int 0, .ref q178, .int 0, .ref q180, .int 0, .ref q182, .ref q184, .ref q186, .ref q188, .ref q190, .int 0, .int 0, .int 0, .int 0, .int 0, .int 0, .int 0, .int (-1), .int 0, .int 0, .int 0, .int 0, .int 0, .int 0, .int 0, .ref q192, .ref q194, .ref q196, .ref q198, .ref q200, .ref q202, .null, .null, .null, .null, .null, .null, .int 0, .null, .null, .null, .int 0, .int 0, .int 0, .int 0, .null, .null, .int 0, .null, .null, .int 0, .null, .int 0, .null, .null])), (q178, .inl (d179, 2000, .inl (fun _ => 0))), (q180, .inl (d181, 2000, .inl (fun _ => 0))), (q182, .inl (d183, 403, .inl (fun _ => 0))), (q184, .inl (d185, 403, .inl (fun _ => 0))), (q186, .inl (d187, 403, .inl (fun _ => 0))), (q188, .inl (d189, 403, .inr (.inl (fun _ => 0)))), (q190, .inl (d191, 13, .inr (.inl (fun _ => 0)))), (q192, .inl (d193, 5, .inr (.inl (fun _ => 0)))), (q194, .inl (d195, 2, .inl (fun _ => 0))), (q196, .inl (d197, 320, .inl (fun _ => 0))), (q198, .inl (d199, 2, .inl (fun _ => 0))), (q200, .inl (d201, 10, .inl (fun _ => 0))), (q202, .inl (d203, 160, .inl (fun _ => 0))), (q204, .inl (d205, 2, .inl (fun _ => 0)))]) 122 [(0, .ref h0)] [.ref q204, .ref h0]
  refine g_putF (ws' := [(h0, .inr (12, [.int 0, .ref q178, .int 0, .ref q180, .int 0, .ref q182, .ref q184, .ref q186, .ref q188, .ref q190, .int 0, .int 0, .int 0, .int 0, .int 0, .int 0, .int 0, .int (-1), .int 0, .int 0, .int 0, .int 0, .int 0, .int 0, .int 0, .ref q192, .ref q194, .ref q196, .ref q198, .ref q200, .ref q202, .ref q204, .null, .null, .null, .null, .null, .int 0, .null, .null, .null, .int 0, .int 0, .int 0, .int 0, .null, .null, .int 0, .null, .null, .int 0, .null, .int 0, .null, .null])), (q178, .inl (d179, 2000, .inl (fun _ => 0))), (q180, .inl (d181, 2000, .inl (fun _ => 0))), (q182, .inl (d183, 403, .inl (fun _ => 0))), (q184, .inl (d185, 403, .inl (fun _ => 0))), (q186, .inl (d187, 403, .inl (fun _ => 0))), (q188, .inl (d189, 403, .inr (.inl (fun _ => 0)))), (q190, .inl (d191, 13, .inr (.inl (fun _ => 0)))), (q192, .inl (d193, 5, .inr (.inl (fun _ => 0)))), (q194, .inl (d195, 2, .inl (fun _ => 0))), (q196, .inl (d197, 320, .inl (fun _ => 0))), (q198, .inl (d199, 2, .inl (fun _ => 0))), (q200, .inl (d201, 10, .inl (fun _ => 0))), (q202, .inl (d203, 160, .inl (fun _ => 0))), (q204, .inl (d205, 2, .inl (fun _ => 0)))]) hk (hN rfl) hin12 tyX12 tyX12_ok nmX12 0 rfl rfl 31 (by decide) (List.mem_cons_of_mem _ (List.mem_append_left _ (List.mem_of_getElem? (i := 20) rfl))) rfl rfl rfl rfl rfl (Nat.le_of_ble_eq_true rfl) rfl dX12_init_122 ?_
  refine g_aload_n hk dX12_init_125 rfl ?_
  refine g_iconst (v := 2) hk dX12_init_126 (by decide) ?_
  refine g_newa (N' := 2) (atype := .int) (ty := .int) (a0 := (2, .inl (fun _ => 0))) hk (List.mem_cons_of_mem _ (List.mem_append_left _ (List.mem_of_getElem? (i := 6) rfl))) rfl (fun cA => rfl) (by decide) (by decide) (Nat.le_of_ble_eq_true rfl) (Nat.le_of_ble_eq_true rfl) (Nat.le_of_ble_eq_true rfl) dX12_init_127 (fun q206 d207 hk => ?_)
  have hk : GC κ l D zt cX12_init 1 RX12 wz_m21_X12_init [(d179, .byte), (d181, .byte), (d183, .int), (d185, .int), (d187, .int), (d189, .long), (d191, .long), (d193, .long), (d195, .int), (d197, .int), (d199, .int), (d201, .int), (d203, .int), (d205, .int), (d207, .int)] ({ frames := 2, cells := 29, slots := 14217, locals := 48 } : Room) := hk
  show GW κ 1 15 6128 ([(h0, .inr (12, [.int 0, .ref q178, .int 0, .ref q180, .int 0, .ref q182, .ref q184, .ref q186, .ref q188, .ref q190, .int 0, .int 0, .int 0, .int 0, .int 0, .int 0, .int 0, .int (-1), .int 0, .int 0, .int 0, .int 0, .int 0, .int 0, .int 0, .ref q192, .ref q194, .ref q196, .ref q198, .ref q200, .ref q202, .ref q204, .null, .null, .null, .null, .null, .int 0, .null, .null, .null, .int 0, .int 0, .int 0, .int 0, .null, .null, .int 0, .null, .null, .int 0, .null, .int 0, .null, .null])), (q178, .inl (d179, 2000, .inl (fun _ => 0))), (q180, .inl (d181, 2000, .inl (fun _ => 0))), (q182, .inl (d183, 403, .inl (fun _ => 0))), (q184, .inl (d185, 403, .inl (fun _ => 0))), (q186, .inl (d187, 403, .inl (fun _ => 0))), (q188, .inl (d189, 403, .inr (.inl (fun _ => 0)))), (q190, .inl (d191, 13, .inr (.inl (fun _ => 0)))), (q192, .inl (d193, 5, .inr (.inl (fun _ => 0)))), (q194, .inl (d195, 2, .inl (fun _ => 0))), (q196, .inl (d197, 320, .inl (fun _ => 0))), (q198, .inl (d199, 2, .inl (fun _ => 0))), (q200, .inl (d201, 10, .inl (fun _ => 0))), (q202, .inl (d203, 160, .inl (fun _ => 0))), (q204, .inl (d205, 2, .inl (fun _ => 0))), (q206, .inl (d207, 2, .inl (fun _ => 0)))]) 129 [(0, .ref h0)] [.ref q206, .ref h0]
  refine g_putF (ws' := [(h0, .inr (12, [.int 0, .ref q178, .int 0, .ref q180, .int 0, .ref q182, .ref q184, .ref q186, .ref q188, .ref q190, .int 0, .int 0, .int 0, .int 0, .int 0, .int 0, .int 0, .int (-1), .int 0, .int 0, .int 0, .int 0, .int 0, .int 0, .int 0, .ref q192, .ref q194, .ref q196, .ref q198, .ref q200, .ref q202, .ref q204, .ref q206, .null, .null, .null, .null, .int 0, .null, .null, .null, .int 0, .int 0, .int 0, .int 0, .null, .null, .int 0, .null, .null, .int 0, .null, .int 0, .null, .null])), (q178, .inl (d179, 2000, .inl (fun _ => 0))), (q180, .inl (d181, 2000, .inl (fun _ => 0))), (q182, .inl (d183, 403, .inl (fun _ => 0))), (q184, .inl (d185, 403, .inl (fun _ => 0))), (q186, .inl (d187, 403, .inl (fun _ => 0))), (q188, .inl (d189, 403, .inr (.inl (fun _ => 0)))), (q190, .inl (d191, 13, .inr (.inl (fun _ => 0)))), (q192, .inl (d193, 5, .inr (.inl (fun _ => 0)))), (q194, .inl (d195, 2, .inl (fun _ => 0))), (q196, .inl (d197, 320, .inl (fun _ => 0))), (q198, .inl (d199, 2, .inl (fun _ => 0))), (q200, .inl (d201, 10, .inl (fun _ => 0))), (q202, .inl (d203, 160, .inl (fun _ => 0))), (q204, .inl (d205, 2, .inl (fun _ => 0))), (q206, .inl (d207, 2, .inl (fun _ => 0)))]) hk (hN rfl) hin12 tyX12 tyX12_ok nmX12 0 rfl rfl 32 (by decide) (List.mem_cons_of_mem _ (List.mem_append_left _ (List.mem_of_getElem? (i := 21) rfl))) rfl rfl rfl rfl rfl (Nat.le_of_ble_eq_true rfl) rfl dX12_init_129 ?_
  refine g_aload_n hk dX12_init_132 rfl ?_
  refine g_iconst (v := 2) hk dX12_init_133 (by decide) ?_
  refine g_newa (N' := 2) (atype := .int) (ty := .int) (a0 := (2, .inl (fun _ => 0))) hk (List.mem_cons_of_mem _ (List.mem_append_left _ (List.mem_of_getElem? (i := 6) rfl))) rfl (fun cA => rfl) (by decide) (by decide) (Nat.le_of_ble_eq_true rfl) (Nat.le_of_ble_eq_true rfl) (Nat.le_of_ble_eq_true rfl) dX12_init_134 (fun q208 d209 hk => ?_)
  have hk : GC κ l D zt cX12_init 1 RX12 wz_m21_X12_init [(d179, .byte), (d181, .byte), (d183, .int), (d185, .int), (d187, .int), (d189, .long), (d191, .long), (d193, .long), (d195, .int), (d197, .int), (d199, .int), (d201, .int), (d203, .int), (d205, .int), (d207, .int), (d209, .int)] ({ frames := 2, cells := 29, slots := 14217, locals := 48 } : Room) := hk
  show GW κ 1 16 6130 ([(h0, .inr (12, [.int 0, .ref q178, .int 0, .ref q180, .int 0, .ref q182, .ref q184, .ref q186, .ref q188, .ref q190, .int 0, .int 0, .int 0, .int 0, .int 0, .int 0, .int 0, .int (-1), .int 0, .int 0, .int 0, .int 0, .int 0, .int 0, .int 0, .ref q192, .ref q194, .ref q196, .ref q198, .ref q200, .ref q202, .ref q204, .ref q206, .null, .null, .null, .null, .int 0, .null, .null, .null, .int 0, .int 0, .int 0, .int 0, .null, .null, .int 0, .null, .null, .int 0, .null, .int 0, .null, .null])), (q178, .inl (d179, 2000, .inl (fun _ => 0))), (q180, .inl (d181, 2000, .inl (fun _ => 0))), (q182, .inl (d183, 403, .inl (fun _ => 0))), (q184, .inl (d185, 403, .inl (fun _ => 0))), (q186, .inl (d187, 403, .inl (fun _ => 0))), (q188, .inl (d189, 403, .inr (.inl (fun _ => 0)))), (q190, .inl (d191, 13, .inr (.inl (fun _ => 0)))), (q192, .inl (d193, 5, .inr (.inl (fun _ => 0)))), (q194, .inl (d195, 2, .inl (fun _ => 0))), (q196, .inl (d197, 320, .inl (fun _ => 0))), (q198, .inl (d199, 2, .inl (fun _ => 0))), (q200, .inl (d201, 10, .inl (fun _ => 0))), (q202, .inl (d203, 160, .inl (fun _ => 0))), (q204, .inl (d205, 2, .inl (fun _ => 0))), (q206, .inl (d207, 2, .inl (fun _ => 0))), (q208, .inl (d209, 2, .inl (fun _ => 0)))]) 136 [(0, .ref h0)] [.ref q208, .ref h0]
  refine g_putF (ws' := [(h0, .inr (12, [.int 0, .ref q178, .int 0, .ref q180, .int 0, .ref q182, .ref q184, .ref q186, .ref q188, .ref q190, .int 0, .int 0, .int 0, .int 0, .int 0, .int 0, .int 0, .int (-1), .int 0, .int 0, .int 0, .int 0, .int 0, .int 0, .int 0, .ref q192, .ref q194, .ref q196, .ref q198, .ref q200, .ref q202, .ref q204, .ref q206, .ref q208, .null, .null, .null, .int 0, .null, .null, .null, .int 0, .int 0, .int 0, .int 0, .null, .null, .int 0, .null, .null, .int 0, .null, .int 0, .null, .null])), (q178, .inl (d179, 2000, .inl (fun _ => 0))), (q180, .inl (d181, 2000, .inl (fun _ => 0))), (q182, .inl (d183, 403, .inl (fun _ => 0))), (q184, .inl (d185, 403, .inl (fun _ => 0))), (q186, .inl (d187, 403, .inl (fun _ => 0))), (q188, .inl (d189, 403, .inr (.inl (fun _ => 0)))), (q190, .inl (d191, 13, .inr (.inl (fun _ => 0)))), (q192, .inl (d193, 5, .inr (.inl (fun _ => 0)))), (q194, .inl (d195, 2, .inl (fun _ => 0))), (q196, .inl (d197, 320, .inl (fun _ => 0))), (q198, .inl (d199, 2, .inl (fun _ => 0))), (q200, .inl (d201, 10, .inl (fun _ => 0))), (q202, .inl (d203, 160, .inl (fun _ => 0))), (q204, .inl (d205, 2, .inl (fun _ => 0))), (q206, .inl (d207, 2, .inl (fun _ => 0))), (q208, .inl (d209, 2, .inl (fun _ => 0)))]) hk (hN rfl) hin12 tyX12 tyX12_ok nmX12 0 rfl rfl 33 (by decide) (List.mem_cons_of_mem _ (List.mem_append_left _ (List.mem_of_getElem? (i := 22) rfl))) rfl rfl rfl rfl rfl (Nat.le_of_ble_eq_true rfl) rfl dX12_init_136 ?_
  refine g_aload_n hk dX12_init_139 rfl ?_
  refine g_iconst (v := 2) hk dX12_init_140 (by decide) ?_
  refine g_newa (N' := 2) (atype := .int) (ty := .int) (a0 := (2, .inl (fun _ => 0))) hk (List.mem_cons_of_mem _ (List.mem_append_left _ (List.mem_of_getElem? (i := 6) rfl))) rfl (fun cA => rfl) (by decide) (by decide) (Nat.le_of_ble_eq_true rfl) (Nat.le_of_ble_eq_true rfl) (Nat.le_of_ble_eq_true rfl) dX12_init_141 (fun q210 d211 hk => ?_)
  have hk : GC κ l D zt cX12_init 1 RX12 wz_m21_X12_init [(d179, .byte), (d181, .byte), (d183, .int), (d185, .int), (d187, .int), (d189, .long), (d191, .long), (d193, .long), (d195, .int), (d197, .int), (d199, .int), (d201, .int), (d203, .int), (d205, .int), (d207, .int), (d209, .int), (d211, .int)] ({ frames := 2, cells := 29, slots := 14217, locals := 48 } : Room) := hk
  show GW κ 1 17 6132 ([(h0, .inr (12, [.int 0, .ref q178, .int 0, .ref q180, .int 0, .ref q182, .ref q184, .ref q186, .ref q188, .ref q190, .int 0, .int 0, .int 0, .int 0, .int 0, .int 0, .int 0, .int (-1), .int 0, .int 0, .int 0, .int 0, .int 0, .int 0, .int 0, .ref q192, .ref q194, .ref q196, .ref q198, .ref q200, .ref q202, .ref q204, .ref q206, .ref q208, .null, .null, .null, .int 0, .null, .null, .null, .int 0, .int 0, .int 0, .int 0, .null, .null, .int 0, .null, .null, .int 0, .null, .int 0, .null, .null])), (q178, .inl (d179, 2000, .inl (fun _ => 0))), (q180, .inl (d181, 2000, .inl (fun _ => 0))), (q182, .inl (d183, 403, .inl (fun _ => 0))), (q184, .inl (d185, 403, .inl (fun _ => 0))), (q186, .inl (d187, 403, .inl (fun _ => 0))), (q188, .inl (d189, 403, .inr (.inl (fun _ => 0)))), (q190, .inl (d191, 13, .inr (.inl (fun _ => 0)))), (q192, .inl (d193, 5, .inr (.inl (fun _ => 0)))), (q194, .inl (d195, 2, .inl (fun _ => 0))), (q196, .inl (d197, 320, .inl (fun _ => 0))), (q198, .inl (d199, 2, .inl (fun _ => 0))), (q200, .inl (d201, 10, .inl (fun _ => 0))), (q202, .inl (d203, 160, .inl (fun _ => 0))), (q204, .inl (d205, 2, .inl (fun _ => 0))), (q206, .inl (d207, 2, .inl (fun _ => 0))), (q208, .inl (d209, 2, .inl (fun _ => 0))), (q210, .inl (d211, 2, .inl (fun _ => 0)))]) 143 [(0, .ref h0)] [.ref q210, .ref h0]
  refine g_putF (ws' := [(h0, .inr (12, [.int 0, .ref q178, .int 0, .ref q180, .int 0, .ref q182, .ref q184, .ref q186, .ref q188, .ref q190, .int 0, .int 0, .int 0, .int 0, .int 0, .int 0, .int 0, .int (-1), .int 0, .int 0, .int 0, .int 0, .int 0, .int 0, .int 0, .ref q192, .ref q194, .ref q196, .ref q198, .ref q200, .ref q202, .ref q204, .ref q206, .ref q208, .ref q210, .null, .null, .int 0, .null, .null, .null, .int 0, .int 0, .int 0, .int 0, .null, .null, .int 0, .null, .null, .int 0, .null, .int 0, .null, .null])), (q178, .inl (d179, 2000, .inl (fun _ => 0))), (q180, .inl (d181, 2000, .inl (fun _ => 0))), (q182, .inl (d183, 403, .inl (fun _ => 0))), (q184, .inl (d185, 403, .inl (fun _ => 0))), (q186, .inl (d187, 403, .inl (fun _ => 0))), (q188, .inl (d189, 403, .inr (.inl (fun _ => 0)))), (q190, .inl (d191, 13, .inr (.inl (fun _ => 0)))), (q192, .inl (d193, 5, .inr (.inl (fun _ => 0)))), (q194, .inl (d195, 2, .inl (fun _ => 0))), (q196, .inl (d197, 320, .inl (fun _ => 0))), (q198, .inl (d199, 2, .inl (fun _ => 0))), (q200, .inl (d201, 10, .inl (fun _ => 0))), (q202, .inl (d203, 160, .inl (fun _ => 0))), (q204, .inl (d205, 2, .inl (fun _ => 0))), (q206, .inl (d207, 2, .inl (fun _ => 0))), (q208, .inl (d209, 2, .inl (fun _ => 0))), (q210, .inl (d211, 2, .inl (fun _ => 0)))]) hk (hN rfl) hin12 tyX12 tyX12_ok nmX12 0 rfl rfl 34 (by decide) (List.mem_cons_of_mem _ (List.mem_append_left _ (List.mem_of_getElem? (i := 23) rfl))) rfl rfl rfl rfl rfl (Nat.le_of_ble_eq_true rfl) rfl dX12_init_143 ?_
  refine g_aload_n hk dX12_init_146 rfl ?_
  refine g_sipush (v := 165) hk dX12_init_147 (by decide) ?_
  refine g_newa (N' := 165) (atype := .int) (ty := .int) (a0 := (165, .inl (fun _ => 0))) hk (List.mem_cons_of_mem _ (List.mem_append_left _ (List.mem_of_getElem? (i := 6) rfl))) rfl (fun cA => rfl) (by decide) (by decide) (Nat.le_of_ble_eq_true rfl) (Nat.le_of_ble_eq_true rfl) (Nat.le_of_ble_eq_true rfl) dX12_init_150 (fun q212 d213 hk => ?_)
  have hk : GC κ l D zt cX12_init 1 RX12 wz_m21_X12_init [(d179, .byte), (d181, .byte), (d183, .int), (d185, .int), (d187, .int), (d189, .long), (d191, .long), (d193, .long), (d195, .int), (d197, .int), (d199, .int), (d201, .int), (d203, .int), (d205, .int), (d207, .int), (d209, .int), (d211, .int), (d213, .int)] ({ frames := 2, cells := 29, slots := 14217, locals := 48 } : Room) := hk
  show GW κ 1 18 6297 ([(h0, .inr (12, [.int 0, .ref q178, .int 0, .ref q180, .int 0, .ref q182, .ref q184, .ref q186, .ref q188, .ref q190, .int 0, .int 0, .int 0, .int 0, .int 0, .int 0, .int 0, .int (-1), .int 0, .int 0, .int 0, .int 0, .int 0, .int 0, .int 0, .ref q192, .ref q194, .ref q196, .ref q198, .ref q200, .ref q202, .ref q204, .ref q206, .ref q208, .ref q210, .null, .null, .int 0, .null, .null, .null, .int 0, .int 0, .int 0, .int 0, .null, .null, .int 0, .null, .null, .int 0, .null, .int 0, .null, .null])), (q178, .inl (d179, 2000, .inl (fun _ => 0))), (q180, .inl (d181, 2000, .inl (fun _ => 0))), (q182, .inl (d183, 403, .inl (fun _ => 0))), (q184, .inl (d185, 403, .inl (fun _ => 0))), (q186, .inl (d187, 403, .inl (fun _ => 0))), (q188, .inl (d189, 403, .inr (.inl (fun _ => 0)))), (q190, .inl (d191, 13, .inr (.inl (fun _ => 0)))), (q192, .inl (d193, 5, .inr (.inl (fun _ => 0)))), (q194, .inl (d195, 2, .inl (fun _ => 0))), (q196, .inl (d197, 320, .inl (fun _ => 0))), (q198, .inl (d199, 2, .inl (fun _ => 0))), (q200, .inl (d201, 10, .inl (fun _ => 0))), (q202, .inl (d203, 160, .inl (fun _ => 0))), (q204, .inl (d205, 2, .inl (fun _ => 0))), (q206, .inl (d207, 2, .inl (fun _ => 0))), (q208, .inl (d209, 2, .inl (fun _ => 0))), (q210, .inl (d211, 2, .inl (fun _ => 0))), (q212, .inl (d213, 165, .inl (fun _ => 0)))]) 152 [(0, .ref h0)] [.ref q212, .ref h0]
  refine g_putF (ws' := [(h0, .inr (12, [.int 0, .ref q178, .int 0, .ref q180, .int 0, .ref q182, .ref q184, .ref q186, .ref q188, .ref q190, .int 0, .int 0, .int 0, .int 0, .int 0, .int 0, .int 0, .int (-1), .int 0, .int 0, .int 0, .int 0, .int 0, .int 0, .int 0, .ref q192, .ref q194, .ref q196, .ref q198, .ref q200, .ref q202, .ref q204, .ref q206, .ref q208, .ref q210, .ref q212, .null, .int 0, .null, .null, .null, .int 0, .int 0, .int 0, .int 0, .null, .null, .int 0, .null, .null, .int 0, .null, .int 0, .null, .null])), (q178, .inl (d179, 2000, .inl (fun _ => 0))), (q180, .inl (d181, 2000, .inl (fun _ => 0))), (q182, .inl (d183, 403, .inl (fun _ => 0))), (q184, .inl (d185, 403, .inl (fun _ => 0))), (q186, .inl (d187, 403, .inl (fun _ => 0))), (q188, .inl (d189, 403, .inr (.inl (fun _ => 0)))), (q190, .inl (d191, 13, .inr (.inl (fun _ => 0)))), (q192, .inl (d193, 5, .inr (.inl (fun _ => 0)))), (q194, .inl (d195, 2, .inl (fun _ => 0))), (q196, .inl (d197, 320, .inl (fun _ => 0))), (q198, .inl (d199, 2, .inl (fun _ => 0))), (q200, .inl (d201, 10, .inl (fun _ => 0))), (q202, .inl (d203, 160, .inl (fun _ => 0))), (q204, .inl (d205, 2, .inl (fun _ => 0))), (q206, .inl (d207, 2, .inl (fun _ => 0))), (q208, .inl (d209, 2, .inl (fun _ => 0))), (q210, .inl (d211, 2, .inl (fun _ => 0))), (q212, .inl (d213, 165, .inl (fun _ => 0)))]) hk (hN rfl) hin12 tyX12 tyX12_ok nmX12 0 rfl rfl 35 (by decide) (List.mem_cons_of_mem _ (List.mem_append_left _ (List.mem_of_getElem? (i := 24) rfl))) rfl rfl rfl rfl rfl (Nat.le_of_ble_eq_true rfl) rfl dX12_init_152 ?_
  refine g_aload_n hk dX12_init_155 rfl ?_
  refine g_sipush (v := 165) hk dX12_init_156 (by decide) ?_
  refine g_newa (N' := 165) (atype := .int) (ty := .int) (a0 := (165, .inl (fun _ => 0))) hk (List.mem_cons_of_mem _ (List.mem_append_left _ (List.mem_of_getElem? (i := 6) rfl))) rfl (fun cA => rfl) (by decide) (by decide) (Nat.le_of_ble_eq_true rfl) (Nat.le_of_ble_eq_true rfl) (Nat.le_of_ble_eq_true rfl) dX12_init_159 (fun q214 d215 hk => ?_)
  have hk : GC κ l D zt cX12_init 1 RX12 wz_m21_X12_init [(d179, .byte), (d181, .byte), (d183, .int), (d185, .int), (d187, .int), (d189, .long), (d191, .long), (d193, .long), (d195, .int), (d197, .int), (d199, .int), (d201, .int), (d203, .int), (d205, .int), (d207, .int), (d209, .int), (d211, .int), (d213, .int), (d215, .int)] ({ frames := 2, cells := 29, slots := 14217, locals := 48 } : Room) := hk
  show GW κ 1 19 6462 ([(h0, .inr (12, [.int 0, .ref q178, .int 0, .ref q180, .int 0, .ref q182, .ref q184, .ref q186, .ref q188, .ref q190, .int 0, .int 0, .int 0, .int 0, .int 0, .int 0, .int 0, .int (-1), .int 0, .int 0, .int 0, .int 0, .int 0, .int 0, .int 0, .ref q192, .ref q194, .ref q196, .ref q198, .ref q200, .ref q202, .ref q204, .ref q206, .ref q208, .ref q210, .ref q212, .null, .int 0, .null, .null, .null, .int 0, .int 0, .int 0, .int 0, .null, .null, .int 0, .null, .null, .int 0, .null, .int 0, .null, .null])), (q178, .inl (d179, 2000, .inl (fun _ => 0))), (q180, .inl (d181, 2000, .inl (fun _ => 0))), (q182, .inl (d183, 403, .inl (fun _ => 0))), (q184, .inl (d185, 403, .inl (fun _ => 0))), (q186, .inl (d187, 403, .inl (fun _ => 0))), (q188, .inl (d189, 403, .inr (.inl (fun _ => 0)))), (q190, .inl (d191, 13, .inr (.inl (fun _ => 0)))), (q192, .inl (d193, 5, .inr (.inl (fun _ => 0)))), (q194, .inl (d195, 2, .inl (fun _ => 0))), (q196, .inl (d197, 320, .inl (fun _ => 0))), (q198, .inl (d199, 2, .inl (fun _ => 0))), (q200, .inl (d201, 10, .inl (fun _ => 0))), (q202, .inl (d203, 160, .inl (fun _ => 0))), (q204, .inl (d205, 2, .inl (fun _ => 0))), (q206, .inl (d207, 2, .inl (fun _ => 0))), (q208, .inl (d209, 2, .inl (fun _ => 0))), (q210, .inl (d211, 2, .inl (fun _ => 0))), (q212, .inl (d213, 165, .inl (fun _ => 0))), (q214, .inl (d215, 165, .inl (fun _ => 0)))]) 161 [(0, .ref h0)] [.ref q214, .ref h0]
  refine g_putF (ws' := [(h0, .inr (12, [.int 0, .ref q178, .int 0, .ref q180, .int 0, .ref q182, .ref q184, .ref q186, .ref q188, .ref q190, .int 0, .int 0, .int 0, .int 0, .int 0, .int 0, .int 0, .int (-1), .int 0, .int 0, .int 0, .int 0, .int 0, .int 0, .int 0, .ref q192, .ref q194, .ref q196, .ref q198, .ref q200, .ref q202, .ref q204, .ref q206, .ref q208, .ref q210, .ref q212, .ref q214, .int 0, .null, .null, .null, .int 0, .int 0, .int 0, .int 0, .null, .null, .int 0, .null, .null, .int 0, .null, .int 0, .null, .null])), (q178, .inl (d179, 2000, .inl (fun _ => 0))), (q180, .inl (d181, 2000, .inl (fun _ => 0))), (q182, .inl (d183, 403, .inl (fun _ => 0))), (q184, .inl (d185, 403, .inl (fun _ => 0))), (q186, .inl (d187, 403, .inl (fun _ => 0))), (q188, .inl (d189, 403, .inr (.inl (fun _ => 0)))), (q190, .inl (d191, 13, .inr (.inl (fun _ => 0)))), (q192, .inl (d193, 5, .inr (.inl (fun _ => 0)))), (q194, .inl (d195, 2, .inl (fun _ => 0))), (q196, .inl (d197, 320, .inl (fun _ => 0))), (q198, .inl (d199, 2, .inl (fun _ => 0))), (q200, .inl (d201, 10, .inl (fun _ => 0))), (q202, .inl (d203, 160, .inl (fun _ => 0))), (q204, .inl (d205, 2, .inl (fun _ => 0))), (q206, .inl (d207, 2, .inl (fun _ => 0))), (q208, .inl (d209, 2, .inl (fun _ => 0))), (q210, .inl (d211, 2, .inl (fun _ => 0))), (q212, .inl (d213, 165, .inl (fun _ => 0))), (q214, .inl (d215, 165, .inl (fun _ => 0)))]) hk (hN rfl) hin12 tyX12 tyX12_ok nmX12 0 rfl rfl 36 (by decide) (List.mem_cons_of_mem _ (List.mem_append_left _ (List.mem_of_getElem? (i := 25) rfl))) rfl rfl rfl rfl rfl (Nat.le_of_ble_eq_true rfl) rfl dX12_init_161 ?_
  refine g_aload_n hk dX12_init_164 rfl ?_
  refine g_bipush (v := 16) hk dX12_init_165 (by decide) ?_
  refine g_newa (N' := 16) (atype := .int) (ty := .int) (a0 := (16, .inl (fun _ => 0))) hk (List.mem_cons_of_mem _ (List.mem_append_left _ (List.mem_of_getElem? (i := 6) rfl))) rfl (fun cA => rfl) (by decide) (by decide) (Nat.le_of_ble_eq_true rfl) (Nat.le_of_ble_eq_true rfl) (Nat.le_of_ble_eq_true rfl) dX12_init_167 (fun q216 d217 hk => ?_)
  have hk : GC κ l D zt cX12_init 1 RX12 wz_m21_X12_init [(d179, .byte), (d181, .byte), (d183, .int), (d185, .int), (d187, .int), (d189, .long), (d191, .long), (d193, .long), (d195, .int), (d197, .int), (d199, .int), (d201, .int), (d203, .int), (d205, .int), (d207, .int), (d209, .int), (d211, .int), (d213, .int), (d215, .int), (d217, .int)] ({ frames := 2, cells := 29, slots := 14217, locals := 48 } : Room) := hk
  show GW κ 1 20 6478 ([(h0, .inr (12, [.int 0, .ref q178, .int 0, .ref q180, .int 0, .ref q182, .ref q184, .ref q186, .ref q188, .ref q190, .int 0, .int 0, .int 0, .int 0, .int 0, .int 0, .int 0, .int (-1), .int 0, .int 0, .int 0, .int 0, .int 0, .int 0, .int 0, .ref q192, .ref q194, .ref q196, .ref q198, .ref q200, .ref q202, .ref q204, .ref q206, .ref q208, .ref q210, .ref q212, .ref q214, .int 0, .null, .null, .null, .int 0, .int 0, .int 0, .int 0, .null, .null, .int 0, .null, .null, .int 0, .null, .int 0, .null, .null])), (q178, .inl (d179, 2000, .inl (fun _ => 0))), (q180, .inl (d181, 2000, .inl (fun _ => 0))), (q182, .inl (d183, 403, .inl (fun _ => 0))), (q184, .inl (d185, 403, .inl (fun _ => 0))), (q186, .inl (d187, 403, .inl (fun _ => 0))), (q188, .inl (d189, 403, .inr (.inl (fun _ => 0)))), (q190, .inl (d191, 13, .inr (.inl (fun _ => 0)))), (q192, .inl (d193, 5, .inr (.inl (fun _ => 0)))), (q194, .inl (d195, 2, .inl (fun _ => 0))), (q196, .inl (d197, 320, .inl (fun _ => 0))), (q198, .inl (d199, 2, .inl (fun _ => 0))), (q200, .inl (d201, 10, .inl (fun _ => 0))), (q202, .inl (d203, 160, .inl (fun _ => 0))), (q204, .inl (d205, 2, .inl (fun _ => 0))), (q206, .inl (d207, 2, .inl (fun _ => 0))), (q208, .inl (d209, 2, .inl (fun _ => 0))), (q210, .inl (d211, 2, .inl (fun _ => 0))), (q212, .inl (d213, 165, .inl (fun _ => 0))), (q214, .inl (d215, 165, .inl (fun _ => 0))), (q216, .inl (d217, 16, .inl (fun _ => 0)))]) 169 [(0, .ref h0)] [.ref q216, .ref h0]
  refine g_putF (ws' := [(h0, .inr (12, [.int 0, .ref q178, .int 0, .ref q180, .int 0, .ref q182, .ref q184, .ref q186, .ref q188, .ref q190, .int 0, .int 0, .int 0, .int 0, .int 0, .int 0, .int 0, .int (-1), .int 0, .int 0, .int 0, .int 0, .int 0, .int 0, .int 0, .ref q192, .ref q194, .ref q196, .ref q198, .ref q200, .ref q202, .ref q204, .ref q206, .ref q208, .ref q210, .ref q212, .ref q214, .int 0, .ref q216, .null, .null, .int 0, .int 0, .int 0, .int 0, .null, .null, .int 0, .null, .null, .int 0, .null, .int 0, .null, .null])), (q178, .inl (d179, 2000, .inl (fun _ => 0))), (q180, .inl (d181, 2000, .inl (fun _ => 0))), (q182, .inl (d183, 403, .inl (fun _ => 0))), (q184, .inl (d185, 403, .inl (fun _ => 0))), (q186, .inl (d187, 403, .inl (fun _ => 0))), (q188, .inl (d189, 403, .inr (.inl (fun _ => 0)))), (q190, .inl (d191, 13, .inr (.inl (fun _ => 0)))), (q192, .inl (d193, 5, .inr (.inl (fun _ => 0)))), (q194, .inl (d195, 2, .inl (fun _ => 0))), (q196, .inl (d197, 320, .inl (fun _ => 0))), (q198, .inl (d199, 2, .inl (fun _ => 0))), (q200, .inl (d201, 10, .inl (fun _ => 0))), (q202, .inl (d203, 160, .inl (fun _ => 0))), (q204, .inl (d205, 2, .inl (fun _ => 0))), (q206, .inl (d207, 2, .inl (fun _ => 0))), (q208, .inl (d209, 2, .inl (fun _ => 0))), (q210, .inl (d211, 2, .inl (fun _ => 0))), (q212, .inl (d213, 165, .inl (fun _ => 0))), (q214, .inl (d215, 165, .inl (fun _ => 0))), (q216, .inl (d217, 16, .inl (fun _ => 0)))]) hk (hN rfl) hin12 tyX12 tyX12_ok nmX12 0 rfl rfl 38 (by decide) (List.mem_cons_of_mem _ (List.mem_append_left _ (List.mem_of_getElem? (i := 26) rfl))) rfl rfl rfl rfl rfl (Nat.le_of_ble_eq_true rfl) rfl dX12_init_169 ?_
  refine g_aload_n hk dX12_init_172 rfl ?_
  refine g_bipush (v := 16) hk dX12_init_173 (by decide) ?_
  refine g_newa (N' := 16) (atype := .int) (ty := .int) (a0 := (16, .inl (fun _ => 0))) hk (List.mem_cons_of_mem _ (List.mem_append_left _ (List.mem_of_getElem? (i := 6) rfl))) rfl (fun cA => rfl) (by decide) (by decide) (Nat.le_of_ble_eq_true rfl) (Nat.le_of_ble_eq_true rfl) (Nat.le_of_ble_eq_true rfl) dX12_init_175 (fun q218 d219 hk => ?_)
  have hk : GC κ l D zt cX12_init 1 RX12 wz_m21_X12_init [(d179, .byte), (d181, .byte), (d183, .int), (d185, .int), (d187, .int), (d189, .long), (d191, .long), (d193, .long), (d195, .int), (d197, .int), (d199, .int), (d201, .int), (d203, .int), (d205, .int), (d207, .int), (d209, .int), (d211, .int), (d213, .int), (d215, .int), (d217, .int), (d219, .int)] ({ frames := 2, cells := 29, slots := 14217, locals := 48 } : Room) := hk
  show GW κ 1 21 6494 ([(h0, .inr (12, [.int 0, .ref q178, .int 0, .ref q180, .int 0, .ref q182, .ref q184, .ref q186, .ref q188, .ref q190, .int 0, .int 0, .int 0, .int 0, .int 0, .int 0, .int 0, .int (-1), .int 0, .int 0, .int 0, .int 0, .int 0, .int 0, .int 0, .ref q192, .ref q194, .ref q196, .ref q198, .ref q200, .ref q202, .ref q204, .ref q206, .ref q208, .ref q210, .ref q212, .ref q214, .int 0, .ref q216, .null, .null, .int 0, .int 0, .int 0, .int 0, .null, .null, .int 0, .null, .null, .int 0, .null, .int 0, .null, .null])), (q178, .inl (d179, 2000, .inl (fun _ => 0))), (q180, .inl (d181, 2000, .inl (fun _ => 0))), (q182, .inl (d183, 403, .inl (fun _ => 0))), (q184, .inl (d185, 403, .inl (fun _ => 0))), (q186, .inl (d187, 403, .inl (fun _ => 0))), (q188, .inl (d189, 403, .inr (.inl (fun _ => 0)))), (q190, .inl (d191, 13, .inr (.inl (fun _ => 0)))), (q192, .inl (d193, 5, .inr (.inl (fun _ => 0)))), (q194, .inl (d195, 2, .inl (fun _ => 0))), (q196, .inl (d197, 320, .inl (fun _ => 0))), (q198, .inl (d199, 2, .inl (fun _ => 0))), (q200, .inl (d201, 10, .inl (fun _ => 0))), (q202, .inl (d203, 160, .inl (fun _ => 0))), (q204, .inl (d205, 2, .inl (fun _ => 0))), (q206, .inl (d207, 2, .inl (fun _ => 0))), (q208, .inl (d209, 2, .inl (fun _ => 0))), (q210, .inl (d211, 2, .inl (fun _ => 0))), (q212, .inl (d213, 165, .inl (fun _ => 0))), (q214, .inl (d215, 165, .inl (fun _ => 0))), (q216, .inl (d217, 16, .inl (fun _ => 0))), (q218, .inl (d219, 16, .inl (fun _ => 0)))]) 177 [(0, .ref h0)] [.ref q218, .ref h0]
  refine g_putF (ws' := [(h0, .inr (12, [.int 0, .ref q178, .int 0, .ref q180, .int 0, .ref q182, .ref q184, .ref q186, .ref q188, .ref q190, .int 0, .int 0, .int 0, .int 0, .int 0, .int 0, .int 0, .int (-1), .int 0, .int 0, .int 0, .int 0, .int 0, .int 0, .int 0, .ref q192, .ref q194, .ref q196, .ref q198, .ref q200, .ref q202, .ref q204, .ref q206, .ref q208, .ref q210, .ref q212, .ref q214, .int 0, .ref q216, .ref q218, .null, .int 0, .int 0, .int 0, .int 0, .null, .null, .int 0, .null, .null, .int 0, .null, .int 0, .null, .null])), (q178, .inl (d179, 2000, .inl (fun _ => 0))), (q180, .inl (d181, 2000, .inl (fun _ => 0))), (q182, .inl (d183, 403, .inl (fun _ => 0))), (q184, .inl (d185, 403, .inl (fun _ => 0))), (q186, .inl (d187, 403, .inl (fun _ => 0))), (q188, .inl (d189, 403, .inr (.inl (fun _ => 0)))), (q190, .inl (d191, 13, .inr (.inl (fun _ => 0)))), (q192, .inl (d193, 5, .inr (.inl (fun _ => 0)))), (q194, .inl (d195, 2, .inl (fun _ => 0))), (q196, .inl (d197, 320, .inl (fun _ => 0))), (q198, .inl (d199, 2, .inl (fun _ => 0))), (q200, .inl (d201, 10, .inl (fun _ => 0))), (q202, .inl (d203, 160, .inl (fun _ => 0))), (q204, .inl (d205, 2, .inl (fun _ => 0))), (q206, .inl (d207, 2, .inl (fun _ => 0))), (q208, .inl (d209, 2, .inl (fun _ => 0))), (q210, .inl (d211, 2, .inl (fun _ => 0))), (q212, .inl (d213, 165, .inl (fun _ => 0))), (q214, .inl (d215, 165, .inl (fun _ => 0))), (q216, .inl (d217, 16, .inl (fun _ => 0))), (q218, .inl (d219, 16, .inl (fun _ => 0)))]) hk (hN rfl) hin12 tyX12 tyX12_ok nmX12 0 rfl rfl 39 (by decide) (List.mem_cons_of_mem _ (List.mem_append_left _ (List.mem_of_getElem? (i := 27) rfl))) rfl rfl rfl rfl rfl (Nat.le_of_ble_eq_true rfl) rfl dX12_init_177 ?_
  refine g_aload_n hk dX12_init_180 rfl ?_
  refine g_sipush (v := 256) hk dX12_init_181 (by decide) ?_
  refine g_newa (N' := 256) (atype := .int) (ty := .int) (a0 := (256, .inl (fun _ => 0))) hk (List.mem_cons_of_mem _ (List.mem_append_left _ (List.mem_of_getElem? (i := 6) rfl))) rfl (fun cA => rfl) (by decide) (by decide) (Nat.le_of_ble_eq_true rfl) (Nat.le_of_ble_eq_true rfl) (Nat.le_of_ble_eq_true rfl) dX12_init_184 (fun q220 d221 hk => ?_)
  have hk : GC κ l D zt cX12_init 1 RX12 wz_m21_X12_init [(d179, .byte), (d181, .byte), (d183, .int), (d185, .int), (d187, .int), (d189, .long), (d191, .long), (d193, .long), (d195, .int), (d197, .int), (d199, .int), (d201, .int), (d203, .int), (d205, .int), (d207, .int), (d209, .int), (d211, .int), (d213, .int), (d215, .int), (d217, .int), (d219, .int), (d221, .int)] ({ frames := 2, cells := 29, slots := 14217, locals := 48 } : Room) := hk
  show GW κ 1 22 6750 ([(h0, .inr (12, [.int 0, .ref q178, .int 0, .ref q180, .int 0, .ref q182, .ref q184, .ref q186, .ref q188, .ref q190, .int 0, .int 0, .int 0, .int 0, .int 0, .int 0, .int 0, .int (-1), .int 0, .int 0, .int 0, .int 0, .int 0, .int 0, .int 0, .ref q192, .ref q194, .ref q196, .ref q198, .ref q200, .ref q202, .ref q204, .ref q206, .ref q208, .ref q210, .ref q212, .ref q214, .int 0, .ref q216, .ref q218, .null, .int 0, .int 0, .int 0, .int 0, .null, .null, .int 0, .null, .null, .int 0, .null, .int 0, .null, .null])), (q178, .inl (d179, 2000, .inl (fun _ => 0))), (q180, .inl (d181, 2000, .inl (fun _ => 0))), (q182, .inl (d183, 403, .inl (fun _ => 0))), (q184, .inl (d185, 403, .inl (fun _ => 0))), (q186, .inl (d187, 403, .inl (fun _ => 0))), (q188, .inl (d189, 403, .inr (.inl (fun _ => 0)))), (q190, .inl (d191, 13, .inr (.inl (fun _ => 0)))), (q192, .inl (d193, 5, .inr (.inl (fun _ => 0)))), (q194, .inl (d195, 2, .inl (fun _ => 0))), (q196, .inl (d197, 320, .inl (fun _ => 0))), (q198, .inl (d199, 2, .inl (fun _ => 0))), (q200, .inl (d201, 10, .inl (fun _ => 0))), (q202, .inl (d203, 160, .inl (fun _ => 0))), (q204, .inl (d205, 2, .inl (fun _ => 0))), (q206, .inl (d207, 2, .inl (fun _ => 0))), (q208, .inl (d209, 2, .inl (fun _ => 0))), (q210, .inl (d211, 2, .inl (fun _ => 0))), (q212, .inl (d213, 165, .inl (fun _ => 0))), (q214, .inl (d215, 165, .inl (fun _ => 0))), (q216, .inl (d217, 16, .inl (fun _ => 0))), (q218, .inl (d219, 16, .inl (fun _ => 0))), (q220, .inl (d221, 256, .inl (fun _ => 0)))]) 186 [(0, .ref h0)] [.ref q220, .ref h0]
  refine g_putF (ws' := [(h0, .inr (12, [.int 0, .ref q178, .int 0, .ref q180, .int 0, .ref q182, .ref q184, .ref q186, .ref q188, .ref q190, .int 0, .int 0, .int 0, .int 0, .int 0, .int 0, .int 0, .int (-1), .int 0, .int 0, .int 0, .int 0, .int 0, .int 0, .int 0, .ref q192, .ref q194, .ref q196, .ref q198, .ref q200, .ref q202, .ref q204, .ref q206, .ref q208, .ref q210, .ref q212, .ref q214, .int 0, .ref q216, .ref q218, .ref q220, .int 0, .int 0, .int 0, .int 0, .null, .null, .int 0, .null, .null, .int 0, .null, .int 0, .null, .null])), (q178, .inl (d179, 2000, .inl (fun _ => 0))), (q180, .inl (d181, 2000, .inl (fun _ => 0))), (q182, .inl (d183, 403, .inl (fun _ => 0))), (q184, .inl (d185, 403, .inl (fun _ => 0))), (q186, .inl (d187, 403, .inl (fun _ => 0))), (q188, .inl (d189, 403, .inr (.inl (fun _ => 0)))), (q190, .inl (d191, 13, .inr (.inl (fun _ => 0)))), (q192, .inl (d193, 5, .inr (.inl (fun _ => 0)))), (q194, .inl (d195, 2, .inl (fun _ => 0))), (q196, .inl (d197, 320, .inl (fun _ => 0))), (q198, .inl (d199, 2, .inl (fun _ => 0))), (q200, .inl (d201, 10, .inl (fun _ => 0))), (q202, .inl (d203, 160, .inl (fun _ => 0))), (q204, .inl (d205, 2, .inl (fun _ => 0))), (q206, .inl (d207, 2, .inl (fun _ => 0))), (q208, .inl (d209, 2, .inl (fun _ => 0))), (q210, .inl (d211, 2, .inl (fun _ => 0))), (q212, .inl (d213, 165, .inl (fun _ => 0))), (q214, .inl (d215, 165, .inl (fun _ => 0))), (q216, .inl (d217, 16, .inl (fun _ => 0))), (q218, .inl (d219, 16, .inl (fun _ => 0))), (q220, .inl (d221, 256, .inl (fun _ => 0)))]) hk (hN rfl) hin12 tyX12 tyX12_ok nmX12 0 rfl rfl 40 (by decide) (List.mem_cons_of_mem _ (List.mem_append_left _ (List.mem_of_getElem? (i := 28) rfl))) rfl rfl rfl rfl rfl (Nat.le_of_ble_eq_true rfl) rfl dX12_init_186 ?_
  refine g_aload_n hk dX12_init_189 rfl ?_
  refine g_sipush (v := 6600) hk dX12_init_190 (by decide) ?_
  refine g_newa (N' := 6600) (atype := .int) (ty := .int) (a0 := (6600, .inl (fun _ => 0))) hk (List.mem_cons_of_mem _ (List.mem_append_left _ (List.mem_of_getElem? (i := 6) rfl))) rfl (fun cA => rfl) (by decide) (by decide) (Nat.le_of_ble_eq_true rfl) (Nat.le_of_ble_eq_true rfl) (Nat.le_of_ble_eq_true rfl) dX12_init_193 (fun q222 d223 hk => ?_)
  have hk : GC κ l D zt cX12_init 1 RX12 wz_m21_X12_init [(d179, .byte), (d181, .byte), (d183, .int), (d185, .int), (d187, .int), (d189, .long), (d191, .long), (d193, .long), (d195, .int), (d197, .int), (d199, .int), (d201, .int), (d203, .int), (d205, .int), (d207, .int), (d209, .int), (d211, .int), (d213, .int), (d215, .int), (d217, .int), (d219, .int), (d221, .int), (d223, .int)] ({ frames := 2, cells := 29, slots := 14217, locals := 48 } : Room) := hk
  show GW κ 1 23 13350 ([(h0, .inr (12, [.int 0, .ref q178, .int 0, .ref q180, .int 0, .ref q182, .ref q184, .ref q186, .ref q188, .ref q190, .int 0, .int 0, .int 0, .int 0, .int 0, .int 0, .int 0, .int (-1), .int 0, .int 0, .int 0, .int 0, .int 0, .int 0, .int 0, .ref q192, .ref q194, .ref q196, .ref q198, .ref q200, .ref q202, .ref q204, .ref q206, .ref q208, .ref q210, .ref q212, .ref q214, .int 0, .ref q216, .ref q218, .ref q220, .int 0, .int 0, .int 0, .int 0, .null, .null, .int 0, .null, .null, .int 0, .null, .int 0, .null, .null])), (q178, .inl (d179, 2000, .inl (fun _ => 0))), (q180, .inl (d181, 2000, .inl (fun _ => 0))), (q182, .inl (d183, 403, .inl (fun _ => 0))), (q184, .inl (d185, 403, .inl (fun _ => 0))), (q186, .inl (d187, 403, .inl (fun _ => 0))), (q188, .inl (d189, 403, .inr (.inl (fun _ => 0)))), (q190, .inl (d191, 13, .inr (.inl (fun _ => 0)))), (q192, .inl (d193, 5, .inr (.inl (fun _ => 0)))), (q194, .inl (d195, 2, .inl (fun _ => 0))), (q196, .inl (d197, 320, .inl (fun _ => 0))), (q198, .inl (d199, 2, .inl (fun _ => 0))), (q200, .inl (d201, 10, .inl (fun _ => 0))), (q202, .inl (d203, 160, .inl (fun _ => 0))), (q204, .inl (d205, 2, .inl (fun _ => 0))), (q206, .inl (d207, 2, .inl (fun _ => 0))), (q208, .inl (d209, 2, .inl (fun _ => 0))), (q210, .inl (d211, 2, .inl (fun _ => 0))), (q212, .inl (d213, 165, .inl (fun _ => 0))), (q214, .inl (d215, 165, .inl (fun _ => 0))), (q216, .inl (d217, 16, .inl (fun _ => 0))), (q218, .inl (d219, 16, .inl (fun _ => 0))), (q220, .inl (d221, 256, .inl (fun _ => 0))), (q222, .inl (d223, 6600, .inl (fun _ => 0)))]) 195 [(0, .ref h0)] [.ref q222, .ref h0]
  refine g_putF (ws' := [(h0, .inr (12, [.int 0, .ref q178, .int 0, .ref q180, .int 0, .ref q182, .ref q184, .ref q186, .ref q188, .ref q190, .int 0, .int 0, .int 0, .int 0, .int 0, .int 0, .int 0, .int (-1), .int 0, .int 0, .int 0, .int 0, .int 0, .int 0, .int 0, .ref q192, .ref q194, .ref q196, .ref q198, .ref q200, .ref q202, .ref q204, .ref q206, .ref q208, .ref q210, .ref q212, .ref q214, .int 0, .ref q216, .ref q218, .ref q220, .int 0, .int 0, .int 0, .int 0, .ref q222, .null, .int 0, .null, .null, .int 0, .null, .int 0, .null, .null])), (q178, .inl (d179, 2000, .inl (fun _ => 0))), (q180, .inl (d181, 2000, .inl (fun _ => 0))), (q182, .inl (d183, 403, .inl (fun _ => 0))), (q184, .inl (d185, 403, .inl (fun _ => 0))), (q186, .inl (d187, 403, .inl (fun _ => 0))), (q188, .inl (d189, 403, .inr (.inl (fun _ => 0)))), (q190, .inl (d191, 13, .inr (.inl (fun _ => 0)))), (q192, .inl (d193, 5, .inr (.inl (fun _ => 0)))), (q194, .inl (d195, 2, .inl (fun _ => 0))), (q196, .inl (d197, 320, .inl (fun _ => 0))), (q198, .inl (d199, 2, .inl (fun _ => 0))), (q200, .inl (d201, 10, .inl (fun _ => 0))), (q202, .inl (d203, 160, .inl (fun _ => 0))), (q204, .inl (d205, 2, .inl (fun _ => 0))), (q206, .inl (d207, 2, .inl (fun _ => 0))), (q208, .inl (d209, 2, .inl (fun _ => 0))), (q210, .inl (d211, 2, .inl (fun _ => 0))), (q212, .inl (d213, 165, .inl (fun _ => 0))), (q214, .inl (d215, 165, .inl (fun _ => 0))), (q216, .inl (d217, 16, .inl (fun _ => 0))), (q218, .inl (d219, 16, .inl (fun _ => 0))), (q220, .inl (d221, 256, .inl (fun _ => 0))), (q222, .inl (d223, 6600, .inl (fun _ => 0)))]) hk (hN rfl) hin12 tyX12 tyX12_ok nmX12 0 rfl rfl 45 (by decide) (List.mem_cons_of_mem _ (List.mem_append_left _ (List.mem_of_getElem? (i := 29) rfl))) rfl rfl rfl rfl rfl (Nat.le_of_ble_eq_true rfl) rfl dX12_init_195 ?_
  refine g_aload_n hk dX12_init_198 rfl ?_
  refine g_bipush (v := 40) hk dX12_init_199 (by decide) ?_
  refine g_newa (N' := 40) (atype := .int) (ty := .int) (a0 := (40, .inl (fun _ => 0))) hk (List.mem_cons_of_mem _ (List.mem_append_left _ (List.mem_of_getElem? (i := 6) rfl))) rfl (fun cA => rfl) (by decide) (by decide) (Nat.le_of_ble_eq_true rfl) (Nat.le_of_ble_eq_true rfl) (Nat.le_of_ble_eq_true rfl) dX12_init_201 (fun q224 d225 hk => ?_)
  have hk : GC κ l D zt cX12_init 1 RX12 wz_m21_X12_init [(d179, .byte), (d181, .byte), (d183, .int), (d185, .int), (d187, .int), (d189, .long), (d191, .long), (d193, .long), (d195, .int), (d197, .int), (d199, .int), (d201, .int), (d203, .int), (d205, .int), (d207, .int), (d209, .int), (d211, .int), (d213, .int), (d215, .int), (d217, .int), (d219, .int), (d221, .int), (d223, .int), (d225, .int)] ({ frames := 2, cells := 29, slots := 14217, locals := 48 } : Room) := hk
  show GW κ 1 24 13390 ([(h0, .inr (12, [.int 0, .ref q178, .int 0, .ref q180, .int 0, .ref q182, .ref q184, .ref q186, .ref q188, .ref q190, .int 0, .int 0, .int 0, .int 0, .int 0, .int 0, .int 0, .int (-1), .int 0, .int 0, .int 0, .int 0, .int 0, .int 0, .int 0, .ref q192, .ref q194, .ref q196, .ref q198, .ref q200, .ref q202, .ref q204, .ref q206, .ref q208, .ref q210, .ref q212, .ref q214, .int 0, .ref q216, .ref q218, .ref q220, .int 0, .int 0, .int 0, .int 0, .ref q222, .null, .int 0, .null, .null, .int 0, .null, .int 0, .null, .null])), (q178, .inl (d179, 2000, .inl (fun _ => 0))), (q180, .inl (d181, 2000, .inl (fun _ => 0))), (q182, .inl (d183, 403, .inl (fun _ => 0))), (q184, .inl (d185, 403, .inl (fun _ => 0))), (q186, .inl (d187, 403, .inl (fun _ => 0))), (q188, .inl (d189, 403, .inr (.inl (fun _ => 0)))), (q190, .inl (d191, 13, .inr (.inl (fun _ => 0)))), (q192, .inl (d193, 5, .inr (.inl (fun _ => 0)))), (q194, .inl (d195, 2, .inl (fun _ => 0))), (q196, .inl (d197, 320, .inl (fun _ => 0))), (q198, .inl (d199, 2, .inl (fun _ => 0))), (q200, .inl (d201, 10, .inl (fun _ => 0))), (q202, .inl (d203, 160, .inl (fun _ => 0))), (q204, .inl (d205, 2, .inl (fun _ => 0))), (q206, .inl (d207, 2, .inl (fun _ => 0))), (q208, .inl (d209, 2, .inl (fun _ => 0))), (q210, .inl (d211, 2, .inl (fun _ => 0))), (q212, .inl (d213, 165, .inl (fun _ => 0))), (q214, .inl (d215, 165, .inl (fun _ => 0))), (q216, .inl (d217, 16, .inl (fun _ => 0))), (q218, .inl (d219, 16, .inl (fun _ => 0))), (q220, .inl (d221, 256, .inl (fun _ => 0))), (q222, .inl (d223, 6600, .inl (fun _ => 0))), (q224, .inl (d225, 40, .inl (fun _ => 0)))]) 203 [(0, .ref h0)] [.ref q224, .ref h0]
  refine g_putF (ws' := [(h0, .inr (12, [.int 0, .ref q178, .int 0, .ref q180, .int 0, .ref q182, .ref q184, .ref q186, .ref q188, .ref q190, .int 0, .int 0, .int 0, .int 0, .int 0, .int 0, .int 0, .int (-1), .int 0, .int 0, .int 0, .int 0, .int 0, .int 0, .int 0, .ref q192, .ref q194, .ref q196, .ref q198, .ref q200, .ref q202, .ref q204, .ref q206, .ref q208, .ref q210, .ref q212, .ref q214, .int 0, .ref q216, .ref q218, .ref q220, .int 0, .int 0, .int 0, .int 0, .ref q222, .ref q224, .int 0, .null, .null, .int 0, .null, .int 0, .null, .null])), (q178, .inl (d179, 2000, .inl (fun _ => 0))), (q180, .inl (d181, 2000, .inl (fun _ => 0))), (q182, .inl (d183, 403, .inl (fun _ => 0))), (q184, .inl (d185, 403, .inl (fun _ => 0))), (q186, .inl (d187, 403, .inl (fun _ => 0))), (q188, .inl (d189, 403, .inr (.inl (fun _ => 0)))), (q190, .inl (d191, 13, .inr (.inl (fun _ => 0)))), (q192, .inl (d193, 5, .inr (.inl (fun _ => 0)))), (q194, .inl (d195, 2, .inl (fun _ => 0))), (q196, .inl (d197, 320, .inl (fun _ => 0))), (q198, .inl (d199, 2, .inl (fun _ => 0))), (q200, .inl (d201, 10, .inl (fun _ => 0))), (q202, .inl (d203, 160, .inl (fun _ => 0))), (q204, .inl (d205, 2, .inl (fun _ => 0))), (q206, .inl (d207, 2, .inl (fun _ => 0))), (q208, .inl (d209, 2, .inl (fun _ => 0))), (q210, .inl (d211, 2, .inl (fun _ => 0))), (q212, .inl (d213, 165, .inl (fun _ => 0))), (q214, .inl (d215, 165, .inl (fun _ => 0))), (q216, .inl (d217, 16, .inl (fun _ => 0))), (q218, .inl (d219, 16, .inl (fun _ => 0))), (q220, .inl (d221, 256, .inl (fun _ => 0))), (q222, .inl (d223, 6600, .inl (fun _ => 0))), (q224, .inl (d225, 40, .inl (fun _ => 0)))]) hk (hN rfl) hin12 tyX12 tyX12_ok nmX12 0 rfl rfl 46 (by decide) (List.mem_cons_of_mem _ (List.mem_append_left _ (List.mem_of_getElem? (i := 30) rfl))) rfl rfl rfl rfl rfl (Nat.le_of_ble_eq_true rfl) rfl dX12_init_203 ?_
  refine g_aload_n hk dX12_init_206 rfl ?_
  refine g_sipush (v := 160) hk dX12_init_207 (by decide) ?_
  refine g_newa (N' := 160) (atype := .int) (ty := .int) (a0 := (160, .inl (fun _ => 0))) hk (List.mem_cons_of_mem _ (List.mem_append_left _ (List.mem_of_getElem? (i := 6) rfl))) rfl (fun cA => rfl) (by decide) (by decide) (Nat.le_of_ble_eq_true rfl) (Nat.le_of_ble_eq_true rfl) (Nat.le_of_ble_eq_true rfl) dX12_init_210 (fun q226 d227 hk => ?_)
  have hk : GC κ l D zt cX12_init 1 RX12 wz_m21_X12_init [(d179, .byte), (d181, .byte), (d183, .int), (d185, .int), (d187, .int), (d189, .long), (d191, .long), (d193, .long), (d195, .int), (d197, .int), (d199, .int), (d201, .int), (d203, .int), (d205, .int), (d207, .int), (d209, .int), (d211, .int), (d213, .int), (d215, .int), (d217, .int), (d219, .int), (d221, .int), (d223, .int), (d225, .int), (d227, .int)] ({ frames := 2, cells := 29, slots := 14217, locals := 48 } : Room) := hk
  show GW κ 1 25 13550 ([(h0, .inr (12, [.int 0, .ref q178, .int 0, .ref q180, .int 0, .ref q182, .ref q184, .ref q186, .ref q188, .ref q190, .int 0, .int 0, .int 0, .int 0, .int 0, .int 0, .int 0, .int (-1), .int 0, .int 0, .int 0, .int 0, .int 0, .int 0, .int 0, .ref q192, .ref q194, .ref q196, .ref q198, .ref q200, .ref q202, .ref q204, .ref q206, .ref q208, .ref q210, .ref q212, .ref q214, .int 0, .ref q216, .ref q218, .ref q220, .int 0, .int 0, .int 0, .int 0, .ref q222, .ref q224, .int 0, .null, .null, .int 0, .null, .int 0, .null, .null])), (q178, .inl (d179, 2000, .inl (fun _ => 0))), (q180, .inl (d181, 2000, .inl (fun _ => 0))), (q182, .inl (d183, 403, .inl (fun _ => 0))), (q184, .inl (d185, 403, .inl (fun _ => 0))), (q186, .inl (d187, 403, .inl (fun _ => 0))), (q188, .inl (d189, 403, .inr (.inl (fun _ => 0)))), (q190, .inl (d191, 13, .inr (.inl (fun _ => 0)))), (q192, .inl (d193, 5, .inr (.inl (fun _ => 0)))), (q194, .inl (d195, 2, .inl (fun _ => 0))), (q196, .inl (d197, 320, .inl (fun _ => 0))), (q198, .inl (d199, 2, .inl (fun _ => 0))), (q200, .inl (d201, 10, .inl (fun _ => 0))), (q202, .inl (d203, 160, .inl (fun _ => 0))), (q204, .inl (d205, 2, .inl (fun _ => 0))), (q206, .inl (d207, 2, .inl (fun _ => 0))), (q208, .inl (d209, 2, .inl (fun _ => 0))), (q210, .inl (d211, 2, .inl (fun _ => 0))), (q212, .inl (d213, 165, .inl (fun _ => 0))), (q214, .inl (d215, 165, .inl (fun _ => 0))), (q216, .inl (d217, 16, .inl (fun _ => 0))), (q218, .inl (d219, 16, .inl (fun _ => 0))), (q220, .inl (d221, 256, .inl (fun _ => 0))), (q222, .inl (d223, 6600, .inl (fun _ => 0))), (q224, .inl (d225, 40, .inl (fun _ => 0))), (q226, .inl (d227, 160, .inl (fun _ => 0)))]) 212 [(0, .ref h0)] [.ref q226, .ref h0]
  refine g_putF (ws' := [(h0, .inr (12, [.int 0, .ref q178, .int 0, .ref q180, .int 0, .ref q182, .ref q184, .ref q186, .ref q188, .ref q190, .int 0, .int 0, .int 0, .int 0, .int 0, .int 0, .int 0, .int (-1), .int 0, .int 0, .int 0, .int 0, .int 0, .int 0, .int 0, .ref q192, .ref q194, .ref q196, .ref q198, .ref q200, .ref q202, .ref q204, .ref q206, .ref q208, .ref q210, .ref q212, .ref q214, .int 0, .ref q216, .ref q218, .ref q220, .int 0, .int 0, .int 0, .int 0, .ref q222, .ref q224, .int 0, .ref q226, .null, .int 0, .null, .int 0, .null, .null])), (q178, .inl (d179, 2000, .inl (fun _ => 0))), (q180, .inl (d181, 2000, .inl (fun _ => 0))), (q182, .inl (d183, 403, .inl (fun _ => 0))), (q184, .inl (d185, 403, .inl (fun _ => 0))), (q186, .inl (d187, 403, .inl (fun _ => 0))), (q188, .inl (d189, 403, .inr (.inl (fun _ => 0)))), (q190, .inl (d191, 13, .inr (.inl (fun _ => 0)))), (q192, .inl (d193, 5, .inr (.inl (fun _ => 0)))), (q194, .inl (d195, 2, .inl (fun _ => 0))), (q196, .inl (d197, 320, .inl (fun _ => 0))), (q198, .inl (d199, 2, .inl (fun _ => 0))), (q200, .inl (d201, 10, .inl (fun _ => 0))), (q202, .inl (d203, 160, .inl (fun _ => 0))), (q204, .inl (d205, 2, .inl (fun _ => 0))), (q206, .inl (d207, 2, .inl (fun _ => 0))), (q208, .inl (d209, 2, .inl (fun _ => 0))), (q210, .inl (d211, 2, .inl (fun _ => 0))), (q212, .inl (d213, 165, .inl (fun _ => 0))), (q214, .inl (d215, 165, .inl (fun _ => 0))), (q216, .inl (d217, 16, .inl (fun _ => 0))), (q218, .inl (d219, 16, .inl (fun _ => 0))), (q220, .inl (d221, 256, .inl (fun _ => 0))), (q222, .inl (d223, 6600, .inl (fun _ => 0))), (q224, .inl (d225, 40, .inl (fun _ => 0))), (q226, .inl (d227, 160, .inl (fun _ => 0)))]) hk (hN rfl) hin12 tyX12 tyX12_ok nmX12 0 rfl rfl 48 (by decide) (List.mem_cons_of_mem _ (List.mem_append_left _ (List.mem_of_getElem? (i := 31) rfl))) rfl rfl rfl rfl rfl (Nat.le_of_ble_eq_true rfl) rfl dX12_init_212 ?_
  refine g_aload_n hk dX12_init_215 rfl ?_
  refine g_bipush (v := 9) hk dX12_init_216 (by decide) ?_
  refine g_newa (N' := 9) (atype := .int) (ty := .int) (a0 := (9, .inl (fun _ => 0))) hk (List.mem_cons_of_mem _ (List.mem_append_left _ (List.mem_of_getElem? (i := 6) rfl))) rfl (fun cA => rfl) (by decide) (by decide) (Nat.le_of_ble_eq_true rfl) (Nat.le_of_ble_eq_true rfl) (Nat.le_of_ble_eq_true rfl) dX12_init_218 (fun q228 d229 hk => ?_)
  have hk : GC κ l D zt cX12_init 1 RX12 wz_m21_X12_init [(d179, .byte), (d181, .byte), (d183, .int), (d185, .int), (d187, .int), (d189, .long), (d191, .long), (d193, .long), (d195, .int), (d197, .int), (d199, .int), (d201, .int), (d203, .int), (d205, .int), (d207, .int), (d209, .int), (d211, .int), (d213, .int), (d215, .int), (d217, .int), (d219, .int), (d221, .int), (d223, .int), (d225, .int), (d227, .int), (d229, .int)] ({ frames := 2, cells := 29, slots := 14217, locals := 48 } : Room) := hk
  show GW κ 1 26 13559 ([(h0, .inr (12, [.int 0, .ref q178, .int 0, .ref q180, .int 0, .ref q182, .ref q184, .ref q186, .ref q188, .ref q190, .int 0, .int 0, .int 0, .int 0, .int 0, .int 0, .int 0, .int (-1), .int 0, .int 0, .int 0, .int 0, .int 0, .int 0, .int 0, .ref q192, .ref q194, .ref q196, .ref q198, .ref q200, .ref q202, .ref q204, .ref q206, .ref q208, .ref q210, .ref q212, .ref q214, .int 0, .ref q216, .ref q218, .ref q220, .int 0, .int 0, .int 0, .int 0, .ref q222, .ref q224, .int 0, .ref q226, .null, .int 0, .null, .int 0, .null, .null])), (q178, .inl (d179, 2000, .inl (fun _ => 0))), (q180, .inl (d181, 2000, .inl (fun _ => 0))), (q182, .inl (d183, 403, .inl (fun _ => 0))), (q184, .inl (d185, 403, .inl (fun _ => 0))), (q186, .inl (d187, 403, .inl (fun _ => 0))), (q188, .inl (d189, 403, .inr (.inl (fun _ => 0)))), (q190, .inl (d191, 13, .inr (.inl (fun _ => 0)))), (q192, .inl (d193, 5, .inr (.inl (fun _ => 0)))), (q194, .inl (d195, 2, .inl (fun _ => 0))), (q196, .inl (d197, 320, .inl (fun _ => 0))), (q198, .inl (d199, 2, .inl (fun _ => 0))), (q200, .inl (d201, 10, .inl (fun _ => 0))), (q202, .inl (d203, 160, .inl (fun _ => 0))), (q204, .inl (d205, 2, .inl (fun _ => 0))), (q206, .inl (d207, 2, .inl (fun _ => 0))), (q208, .inl (d209, 2, .inl (fun _ => 0))), (q210, .inl (d211, 2, .inl (fun _ => 0))), (q212, .inl (d213, 165, .inl (fun _ => 0))), (q214, .inl (d215, 165, .inl (fun _ => 0))), (q216, .inl (d217, 16, .inl (fun _ => 0))), (q218, .inl (d219, 16, .inl (fun _ => 0))), (q220, .inl (d221, 256, .inl (fun _ => 0))), (q222, .inl (d223, 6600, .inl (fun _ => 0))), (q224, .inl (d225, 40, .inl (fun _ => 0))), (q226, .inl (d227, 160, .inl (fun _ => 0))), (q228, .inl (d229, 9, .inl (fun _ => 0)))]) 220 [(0, .ref h0)] [.ref q228, .ref h0]
  refine g_putF (ws' := [(h0, .inr (12, [.int 0, .ref q178, .int 0, .ref q180, .int 0, .ref q182, .ref q184, .ref q186, .ref q188, .ref q190, .int 0, .int 0, .int 0, .int 0, .int 0, .int 0, .int 0, .int (-1), .int 0, .int 0, .int 0, .int 0, .int 0, .int 0, .int 0, .ref q192, .ref q194, .ref q196, .ref q198, .ref q200, .ref q202, .ref q204, .ref q206, .ref q208, .ref q210, .ref q212, .ref q214, .int 0, .ref q216, .ref q218, .ref q220, .int 0, .int 0, .int 0, .int 0, .ref q222, .ref q224, .int 0, .ref q226, .ref q228, .int 0, .null, .int 0, .null, .null])), (q178, .inl (d179, 2000, .inl (fun _ => 0))), (q180, .inl (d181, 2000, .inl (fun _ => 0))), (q182, .inl (d183, 403, .inl (fun _ => 0))), (q184, .inl (d185, 403, .inl (fun _ => 0))), (q186, .inl (d187, 403, .inl (fun _ => 0))), (q188, .inl (d189, 403, .inr (.inl (fun _ => 0)))), (q190, .inl (d191, 13, .inr (.inl (fun _ => 0)))), (q192, .inl (d193, 5, .inr (.inl (fun _ => 0)))), (q194, .inl (d195, 2, .inl (fun _ => 0))), (q196, .inl (d197, 320, .inl (fun _ => 0))), (q198, .inl (d199, 2, .inl (fun _ => 0))), (q200, .inl (d201, 10, .inl (fun _ => 0))), (q202, .inl (d203, 160, .inl (fun _ => 0))), (q204, .inl (d205, 2, .inl (fun _ => 0))), (q206, .inl (d207, 2, .inl (fun _ => 0))), (q208, .inl (d209, 2, .inl (fun _ => 0))), (q210, .inl (d211, 2, .inl (fun _ => 0))), (q212, .inl (d213, 165, .inl (fun _ => 0))), (q214, .inl (d215, 165, .inl (fun _ => 0))), (q216, .inl (d217, 16, .inl (fun _ => 0))), (q218, .inl (d219, 16, .inl (fun _ => 0))), (q220, .inl (d221, 256, .inl (fun _ => 0))), (q222, .inl (d223, 6600, .inl (fun _ => 0))), (q224, .inl (d225, 40, .inl (fun _ => 0))), (q226, .inl (d227, 160, .inl (fun _ => 0))), (q228, .inl (d229, 9, .inl (fun _ => 0)))]) hk (hN rfl) hin12 tyX12 tyX12_ok nmX12 0 rfl rfl 49 (by decide) (List.mem_cons_of_mem _ (List.mem_append_left _ (List.mem_of_getElem? (i := 32) rfl))) rfl rfl rfl rfl rfl (Nat.le_of_ble_eq_true rfl) rfl dX12_init_220 ?_
  refine g_aload_n hk dX12_init_223 rfl ?_
  refine g_sipush (v := 160) hk dX12_init_224 (by decide) ?_
  refine g_newa (N' := 160) (atype := .int) (ty := .int) (a0 := (160, .inl (fun _ => 0))) hk (List.mem_cons_of_mem _ (List.mem_append_left _ (List.mem_of_getElem? (i := 6) rfl))) rfl (fun cA => rfl) (by decide) (by decide) (Nat.le_of_ble_eq_true rfl) (Nat.le_of_ble_eq_true rfl) (Nat.le_of_ble_eq_true rfl) dX12_init_227 (fun q230 d231 hk => ?_)
  have hk : GC κ l D zt cX12_init 1 RX12 wz_m21_X12_init [(d179, .byte), (d181, .byte), (d183, .int), (d185, .int), (d187, .int), (d189, .long), (d191, .long), (d193, .long), (d195, .int), (d197, .int), (d199, .int), (d201, .int), (d203, .int), (d205, .int), (d207, .int), (d209, .int), (d211, .int), (d213, .int), (d215, .int), (d217, .int), (d219, .int), (d221, .int), (d223, .int), (d225, .int), (d227, .int), (d229, .int), (d231, .int)] ({ frames := 2, cells := 29, slots := 14217, locals := 48 } : Room) := hk
  show GW κ 1 27 13719 ([(h0, .inr (12, [.int 0, .ref q178, .int 0, .ref q180, .int 0, .ref q182, .ref q184, .ref q186, .ref q188, .ref q190, .int 0, .int 0, .int 0, .int 0, .int 0, .int 0, .int 0, .int (-1), .int 0, .int 0, .int 0, .int 0, .int 0, .int 0, .int 0, .ref q192, .ref q194, .ref q196, .ref q198, .ref q200, .ref q202, .ref q204, .ref q206, .ref q208, .ref q210, .ref q212, .ref q214, .int 0, .ref q216, .ref q218, .ref q220, .int 0, .int 0, .int 0, .int 0, .ref q222, .ref q224, .int 0, .ref q226, .ref q228, .int 0, .null, .int 0, .null, .null])), (q178, .inl (d179, 2000, .inl (fun _ => 0))), (q180, .inl (d181, 2000, .inl (fun _ => 0))), (q182, .inl (d183, 403, .inl (fun _ => 0))), (q184, .inl (d185, 403, .inl (fun _ => 0))), (q186, .inl (d187, 403, .inl (fun _ => 0))), (q188, .inl (d189, 403, .inr (.inl (fun _ => 0)))), (q190, .inl (d191, 13, .inr (.inl (fun _ => 0)))), (q192, .inl (d193, 5, .inr (.inl (fun _ => 0)))), (q194, .inl (d195, 2, .inl (fun _ => 0))), (q196, .inl (d197, 320, .inl (fun _ => 0))), (q198, .inl (d199, 2, .inl (fun _ => 0))), (q200, .inl (d201, 10, .inl (fun _ => 0))), (q202, .inl (d203, 160, .inl (fun _ => 0))), (q204, .inl (d205, 2, .inl (fun _ => 0))), (q206, .inl (d207, 2, .inl (fun _ => 0))), (q208, .inl (d209, 2, .inl (fun _ => 0))), (q210, .inl (d211, 2, .inl (fun _ => 0))), (q212, .inl (d213, 165, .inl (fun _ => 0))), (q214, .inl (d215, 165, .inl (fun _ => 0))), (q216, .inl (d217, 16, .inl (fun _ => 0))), (q218, .inl (d219, 16, .inl (fun _ => 0))), (q220, .inl (d221, 256, .inl (fun _ => 0))), (q222, .inl (d223, 6600, .inl (fun _ => 0))), (q224, .inl (d225, 40, .inl (fun _ => 0))), (q226, .inl (d227, 160, .inl (fun _ => 0))), (q228, .inl (d229, 9, .inl (fun _ => 0))), (q230, .inl (d231, 160, .inl (fun _ => 0)))]) 229 [(0, .ref h0)] [.ref q230, .ref h0]
  refine g_putF (ws' := [(h0, .inr (12, [.int 0, .ref q178, .int 0, .ref q180, .int 0, .ref q182, .ref q184, .ref q186, .ref q188, .ref q190, .int 0, .int 0, .int 0, .int 0, .int 0, .int 0, .int 0, .int (-1), .int 0, .int 0, .int 0, .int 0, .int 0, .int 0, .int 0, .ref q192, .ref q194, .ref q196, .ref q198, .ref q200, .ref q202, .ref q204, .ref q206, .ref q208, .ref q210, .ref q212, .ref q214, .int 0, .ref q216, .ref q218, .ref q220, .int 0, .int 0, .int 0, .int 0, .ref q222, .ref q224, .int 0, .ref q226, .ref q228, .int 0, .ref q230, .int 0, .null, .null])), (q178, .inl (d179, 2000, .inl (fun _ => 0))), (q180, .inl (d181, 2000, .inl (fun _ => 0))), (q182, .inl (d183, 403, .inl (fun _ => 0))), (q184, .inl (d185, 403, .inl (fun _ => 0))), (q186, .inl (d187, 403, .inl (fun _ => 0))), (q188, .inl (d189, 403, .inr (.inl (fun _ => 0)))), (q190, .inl (d191, 13, .inr (.inl (fun _ => 0)))), (q192, .inl (d193, 5, .inr (.inl (fun _ => 0)))), (q194, .inl (d195, 2, .inl (fun _ => 0))), (q196, .inl (d197, 320, .inl (fun _ => 0))), (q198, .inl (d199, 2, .inl (fun _ => 0))), (q200, .inl (d201, 10, .inl (fun _ => 0))), (q202, .inl (d203, 160, .inl (fun _ => 0))), (q204, .inl (d205, 2, .inl (fun _ => 0))), (q206, .inl (d207, 2, .inl (fun _ => 0))), (q208, .inl (d209, 2, .inl (fun _ => 0))), (q210, .inl (d211, 2, .inl (fun _ => 0))), (q212, .inl (d213, 165, .inl (fun _ => 0))), (q214, .inl (d215, 165, .inl (fun _ => 0))), (q216, .inl (d217, 16, .inl (fun _ => 0))), (q218, .inl (d219, 16, .inl (fun _ => 0))), (q220, .inl (d221, 256, .inl (fun _ => 0))), (q222, .inl (d223, 6600, .inl (fun _ => 0))), (q224, .inl (d225, 40, .inl (fun _ => 0))), (q226, .inl (d227, 160, .inl (fun _ => 0))), (q228, .inl (d229, 9, .inl (fun _ => 0))), (q230, .inl (d231, 160, .inl (fun _ => 0)))]) hk (hN rfl) hin12 tyX12 tyX12_ok nmX12 0 rfl rfl 51 (by decide) (List.mem_cons_of_mem _ (List.mem_append_left _ (List.mem_of_getElem? (i := 33) rfl))) rfl rfl rfl rfl rfl (Nat.le_of_ble_eq_true rfl) rfl dX12_init_229 ?_
  refine g_aload_n hk dX12_init_232 rfl ?_
  refine g_iconst (v := 3) hk dX12_init_233 (by decide) ?_
  refine g_newa (N' := 3) (atype := .boolean) (ty := .boolean) (a0 := (3, .inl (fun _ => 0))) hk (List.mem_cons_of_mem _ (List.mem_append_left _ (List.mem_of_getElem? (i := 34) rfl))) rfl (fun cA => rfl) (by decide) (by decide) (Nat.le_of_ble_eq_true rfl) (Nat.le_of_ble_eq_true rfl) (Nat.le_of_ble_eq_true rfl) dX12_init_234 (fun q232 d233 hk => ?_)
  have hk : GC κ l D zt cX12_init 1 RX12 wz_m21_X12_init [(d179, .byte), (d181, .byte), (d183, .int), (d185, .int), (d187, .int), (d189, .long), (d191, .long), (d193, .long), (d195, .int), (d197, .int), (d199, .int), (d201, .int), (d203, .int), (d205, .int), (d207, .int), (d209, .int), (d211, .int), (d213, .int), (d215, .int), (d217, .int), (d219, .int), (d221, .int), (d223, .int), (d225, .int), (d227, .int), (d229, .int), (d231, .int), (d233, .boolean)] ({ frames := 2, cells := 29, slots := 14217, locals := 48 } : Room) := hk
  show GW κ 1 28 13722 ([(h0, .inr (12, [.int 0, .ref q178, .int 0, .ref q180, .int 0, .ref q182, .ref q184, .ref q186, .ref q188, .ref q190, .int 0, .int 0, .int 0, .int 0, .int 0, .int 0, .int 0, .int (-1), .int 0, .int 0, .int 0, .int 0, .int 0, .int 0, .int 0, .ref q192, .ref q194, .ref q196, .ref q198, .ref q200, .ref q202, .ref q204, .ref q206, .ref q208, .ref q210, .ref q212, .ref q214, .int 0, .ref q216, .ref q218, .ref q220, .int 0, .int 0, .int 0, .int 0, .ref q222, .ref q224, .int 0, .ref q226, .ref q228, .int 0, .ref q230, .int 0, .null, .null])), (q178, .inl (d179, 2000, .inl (fun _ => 0))), (q180, .inl (d181, 2000, .inl (fun _ => 0))), (q182, .inl (d183, 403, .inl (fun _ => 0))), (q184, .inl (d185, 403, .inl (fun _ => 0))), (q186, .inl (d187, 403, .inl (fun _ => 0))), (q188, .inl (d189, 403, .inr (.inl (fun _ => 0)))), (q190, .inl (d191, 13, .inr (.inl (fun _ => 0)))), (q192, .inl (d193, 5, .inr (.inl (fun _ => 0)))), (q194, .inl (d195, 2, .inl (fun _ => 0))), (q196, .inl (d197, 320, .inl (fun _ => 0))), (q198, .inl (d199, 2, .inl (fun _ => 0))), (q200, .inl (d201, 10, .inl (fun _ => 0))), (q202, .inl (d203, 160, .inl (fun _ => 0))), (q204, .inl (d205, 2, .inl (fun _ => 0))), (q206, .inl (d207, 2, .inl (fun _ => 0))), (q208, .inl (d209, 2, .inl (fun _ => 0))), (q210, .inl (d211, 2, .inl (fun _ => 0))), (q212, .inl (d213, 165, .inl (fun _ => 0))), (q214, .inl (d215, 165, .inl (fun _ => 0))), (q216, .inl (d217, 16, .inl (fun _ => 0))), (q218, .inl (d219, 16, .inl (fun _ => 0))), (q220, .inl (d221, 256, .inl (fun _ => 0))), (q222, .inl (d223, 6600, .inl (fun _ => 0))), (q224, .inl (d225, 40, .inl (fun _ => 0))), (q226, .inl (d227, 160, .inl (fun _ => 0))), (q228, .inl (d229, 9, .inl (fun _ => 0))), (q230, .inl (d231, 160, .inl (fun _ => 0))), (q232, .inl (d233, 3, .inl (fun _ => 0)))]) 236 [(0, .ref h0)] [.ref q232, .ref h0]
  refine g_putF (ws' := [(h0, .inr (12, [.int 0, .ref q178, .int 0, .ref q180, .int 0, .ref q182, .ref q184, .ref q186, .ref q188, .ref q190, .int 0, .int 0, .int 0, .int 0, .int 0, .int 0, .int 0, .int (-1), .int 0, .int 0, .int 0, .int 0, .int 0, .int 0, .int 0, .ref q192, .ref q194, .ref q196, .ref q198, .ref q200, .ref q202, .ref q204, .ref q206, .ref q208, .ref q210, .ref q212, .ref q214, .int 0, .ref q216, .ref q218, .ref q220, .int 0, .int 0, .int 0, .int 0, .ref q222, .ref q224, .int 0, .ref q226, .ref q228, .int 0, .ref q230, .int 0, .ref q232, .null])), (q178, .inl (d179, 2000, .inl (fun _ => 0))), (q180, .inl (d181, 2000, .inl (fun _ => 0))), (q182, .inl (d183, 403, .inl (fun _ => 0))), (q184, .inl (d185, 403, .inl (fun _ => 0))), (q186, .inl (d187, 403, .inl (fun _ => 0))), (q188, .inl (d189, 403, .inr (.inl (fun _ => 0)))), (q190, .inl (d191, 13, .inr (.inl (fun _ => 0)))), (q192, .inl (d193, 5, .inr (.inl (fun _ => 0)))), (q194, .inl (d195, 2, .inl (fun _ => 0))), (q196, .inl (d197, 320, .inl (fun _ => 0))), (q198, .inl (d199, 2, .inl (fun _ => 0))), (q200, .inl (d201, 10, .inl (fun _ => 0))), (q202, .inl (d203, 160, .inl (fun _ => 0))), (q204, .inl (d205, 2, .inl (fun _ => 0))), (q206, .inl (d207, 2, .inl (fun _ => 0))), (q208, .inl (d209, 2, .inl (fun _ => 0))), (q210, .inl (d211, 2, .inl (fun _ => 0))), (q212, .inl (d213, 165, .inl (fun _ => 0))), (q214, .inl (d215, 165, .inl (fun _ => 0))), (q216, .inl (d217, 16, .inl (fun _ => 0))), (q218, .inl (d219, 16, .inl (fun _ => 0))), (q220, .inl (d221, 256, .inl (fun _ => 0))), (q222, .inl (d223, 6600, .inl (fun _ => 0))), (q224, .inl (d225, 40, .inl (fun _ => 0))), (q226, .inl (d227, 160, .inl (fun _ => 0))), (q228, .inl (d229, 9, .inl (fun _ => 0))), (q230, .inl (d231, 160, .inl (fun _ => 0))), (q232, .inl (d233, 3, .inl (fun _ => 0)))]) hk (hN rfl) hin12 tyX12 tyX12_ok nmX12 0 rfl rfl 53 (by decide) (List.mem_cons_of_mem _ (List.mem_append_left _ (List.mem_of_getElem? (i := 35) rfl))) rfl rfl rfl rfl rfl (Nat.le_of_ble_eq_true rfl) rfl dX12_init_236 ?_
  refine g_aload_n hk dX12_init_239 rfl ?_
  refine g_sipush (v := 495) hk dX12_init_240 (by decide) ?_
  refine g_newa (N' := 495) (atype := .int) (ty := .int) (a0 := (495, .inl (fun _ => 0))) hk (List.mem_cons_of_mem _ (List.mem_append_left _ (List.mem_of_getElem? (i := 6) rfl))) rfl (fun cA => rfl) (by decide) (by decide) (Nat.le_of_ble_eq_true rfl) (Nat.le_of_ble_eq_true rfl) (Nat.le_of_ble_eq_true rfl) dX12_init_243 (fun q234 d235 hk => ?_)
  have hk : GC κ l D zt cX12_init 1 RX12 wz_m21_X12_init [(d179, .byte), (d181, .byte), (d183, .int), (d185, .int), (d187, .int), (d189, .long), (d191, .long), (d193, .long), (d195, .int), (d197, .int), (d199, .int), (d201, .int), (d203, .int), (d205, .int), (d207, .int), (d209, .int), (d211, .int), (d213, .int), (d215, .int), (d217, .int), (d219, .int), (d221, .int), (d223, .int), (d225, .int), (d227, .int), (d229, .int), (d231, .int), (d233, .boolean), (d235, .int)] ({ frames := 2, cells := 29, slots := 14217, locals := 48 } : Room) := hk
  show GW κ 1 29 14217 ([(h0, .inr (12, [.int 0, .ref q178, .int 0, .ref q180, .int 0, .ref q182, .ref q184, .ref q186, .ref q188, .ref q190, .int 0, .int 0, .int 0, .int 0, .int 0, .int 0, .int 0, .int (-1), .int 0, .int 0, .int 0, .int 0, .int 0, .int 0, .int 0, .ref q192, .ref q194, .ref q196, .ref q198, .ref q200, .ref q202, .ref q204, .ref q206, .ref q208, .ref q210, .ref q212, .ref q214, .int 0, .ref q216, .ref q218, .ref q220, .int 0, .int 0, .int 0, .int 0, .ref q222, .ref q224, .int 0, .ref q226, .ref q228, .int 0, .ref q230, .int 0, .ref q232, .null])), (q178, .inl (d179, 2000, .inl (fun _ => 0))), (q180, .inl (d181, 2000, .inl (fun _ => 0))), (q182, .inl (d183, 403, .inl (fun _ => 0))), (q184, .inl (d185, 403, .inl (fun _ => 0))), (q186, .inl (d187, 403, .inl (fun _ => 0))), (q188, .inl (d189, 403, .inr (.inl (fun _ => 0)))), (q190, .inl (d191, 13, .inr (.inl (fun _ => 0)))), (q192, .inl (d193, 5, .inr (.inl (fun _ => 0)))), (q194, .inl (d195, 2, .inl (fun _ => 0))), (q196, .inl (d197, 320, .inl (fun _ => 0))), (q198, .inl (d199, 2, .inl (fun _ => 0))), (q200, .inl (d201, 10, .inl (fun _ => 0))), (q202, .inl (d203, 160, .inl (fun _ => 0))), (q204, .inl (d205, 2, .inl (fun _ => 0))), (q206, .inl (d207, 2, .inl (fun _ => 0))), (q208, .inl (d209, 2, .inl (fun _ => 0))), (q210, .inl (d211, 2, .inl (fun _ => 0))), (q212, .inl (d213, 165, .inl (fun _ => 0))), (q214, .inl (d215, 165, .inl (fun _ => 0))), (q216, .inl (d217, 16, .inl (fun _ => 0))), (q218, .inl (d219, 16, .inl (fun _ => 0))), (q220, .inl (d221, 256, .inl (fun _ => 0))), (q222, .inl (d223, 6600, .inl (fun _ => 0))), (q224, .inl (d225, 40, .inl (fun _ => 0))), (q226, .inl (d227, 160, .inl (fun _ => 0))), (q228, .inl (d229, 9, .inl (fun _ => 0))), (q230, .inl (d231, 160, .inl (fun _ => 0))), (q232, .inl (d233, 3, .inl (fun _ => 0))), (q234, .inl (d235, 495, .inl (fun _ => 0)))]) 245 [(0, .ref h0)] [.ref q234, .ref h0]
  refine g_putF (ws' := [(h0, .inr (12, [.int 0, .ref q178, .int 0, .ref q180, .int 0, .ref q182, .ref q184, .ref q186, .ref q188, .ref q190, .int 0, .int 0, .int 0, .int 0, .int 0, .int 0, .int 0, .int (-1), .int 0, .int 0, .int 0, .int 0, .int 0, .int 0, .int 0, .ref q192, .ref q194, .ref q196, .ref q198, .ref q200, .ref q202, .ref q204, .ref q206, .ref q208, .ref q210, .ref q212, .ref q214, .int 0, .ref q216, .ref q218, .ref q220, .int 0, .int 0, .int 0, .int 0, .ref q222, .ref q224, .int 0, .ref q226, .ref q228, .int 0, .ref q230, .int 0, .ref q232, .ref q234])), (q178, .inl (d179, 2000, .inl (fun _ => 0))), (q180, .inl (d181, 2000, .inl (fun _ => 0))), (q182, .inl (d183, 403, .inl (fun _ => 0))), (q184, .inl (d185, 403, .inl (fun _ => 0))), (q186, .inl (d187, 403, .inl (fun _ => 0))), (q188, .inl (d189, 403, .inr (.inl (fun _ => 0)))), (q190, .inl (d191, 13, .inr (.inl (fun _ => 0)))), (q192, .inl (d193, 5, .inr (.inl (fun _ => 0)))), (q194, .inl (d195, 2, .inl (fun _ => 0))), (q196, .inl (d197, 320, .inl (fun _ => 0))), (q198, .inl (d199, 2, .inl (fun _ => 0))), (q200, .inl (d201, 10, .inl (fun _ => 0))), (q202, .inl (d203, 160, .inl (fun _ => 0))), (q204, .inl (d205, 2, .inl (fun _ => 0))), (q206, .inl (d207, 2, .inl (fun _ => 0))), (q208, .inl (d209, 2, .inl (fun _ => 0))), (q210, .inl (d211, 2, .inl (fun _ => 0))), (q212, .inl (d213, 165, .inl (fun _ => 0))), (q214, .inl (d215, 165, .inl (fun _ => 0))), (q216, .inl (d217, 16, .inl (fun _ => 0))), (q218, .inl (d219, 16, .inl (fun _ => 0))), (q220, .inl (d221, 256, .inl (fun _ => 0))), (q222, .inl (d223, 6600, .inl (fun _ => 0))), (q224, .inl (d225, 40, .inl (fun _ => 0))), (q226, .inl (d227, 160, .inl (fun _ => 0))), (q228, .inl (d229, 9, .inl (fun _ => 0))), (q230, .inl (d231, 160, .inl (fun _ => 0))), (q232, .inl (d233, 3, .inl (fun _ => 0))), (q234, .inl (d235, 495, .inl (fun _ => 0)))]) hk (hN rfl) hin12 tyX12 tyX12_ok nmX12 0 rfl rfl 54 (by decide) (List.mem_cons_of_mem _ (List.mem_append_left _ (List.mem_of_getElem? (i := 36) rfl))) rfl rfl rfl rfl rfl (Nat.le_of_ble_eq_true rfl) rfl dX12_init_245 ?_
  refine g_aload_n hk dX12_init_248 rfl ?_
  refine g_iconst (v := 0) hk dX12_init_249 (by decide) ?_
  show GW κ 1 29 14217 (wM (fun k => ([h0, q178, q180, q182, q184, q186, q188, q190, q192, q194, q196, q198, q200, q202, q204, q206, q208, q210, q212, q214, q216, q218, q220, q222, q224, q226, q228, q230, q232, q234] : List Nat).getD k 0) (fun k => ([d179, d181, d183, d185, d187, d189, d191, d193, d195, d197, d199, d201, d203, d205, d207, d209, d211, d213, d215, d217, d219, d221, d223, d225, d227, d229, d231, d233, d235] : List ClassId).getD k d179) iM0 aM0 lM0) 250 [(0, .ref ((fun k => ([h0, q178, q180, q182, q184, q186, q188, q190, q192, q194, q196, q198, q200, q202, q204, q206, q208, q210, q212, q214, q216, q218, q220, q222, q224, q226, q228, q230, q232, q234] : List Nat).getD k 0) 0))] [.int 0, .ref ((fun k => ([h0, q178, q180, q182, q184, q186, q188, q190, q192, q194, q196, q198, q200, q202, q204, q206, q208, q210, q212, q214, q216, q218, q220, q222, q224, q226, q228, q230, q232, q234] : List Nat).getD k 0) 0)]
  have hk : GC κ l D zt cX12_init 1 RX12 wz_m21_X12_init (tyM (fun k => ([d179, d181, d183, d185, d187, d189, d191, d193, d195, d197, d199, d201, d203, d205, d207, d209, d211, d213, d215, d217, d219, d221, d223, d225, d227, d229, d231, d233, d235] : List ClassId).getD k d179)) ({ frames := 2, cells := 29, slots := 14217, locals := 48 } : Room) := hk
  have h00 : (fun k => ([h0, q178, q180, q182, q184, q186, q188, q190, q192, q194, q196, q198, q200, q202, q204, q206, q208, q210, q212, q214, q216, q218, q220, q222, q224, q226, q228, q230, q232, q234] : List Nat).getD k 0) 0 = h0 := rfl
  generalize (fun k => ([h0, q178, q180, q182, q184, q186, q188, q190, q192, q194, q196, q198, q200, q202, q204, q206, q208, q210, q212, q214, q216, q218, q220, q222, q224, q226, q228, q230, q232, q234] : List Nat).getD k 0) = r at h00 ⊢
  generalize (fun k => ([d179, d181, d183, d185, d187, d189, d191, d193, d195, d197, d199, d201, d203, d205, d207, d209, d211, d213, d215, d217, d219, d221, d223, d225, d227, d229, d231, d233, d235] : List ClassId).getD k d179) = g at hk ⊢
  refine g_callV (n := 1) hk (m22_X12_plain l D zt g r) (SP.same _) (fun _ h => h) (gi_V (List.mem_cons_of_mem _ (List.mem_append_left _ (List.mem_of_getElem? (i := 37) rfl))) (List.mem_cons_of_mem _ (List.mem_append_left _ (List.mem_of_getElem? (i := 38) rfl))) (List.mem_cons_of_mem _ (List.mem_append_left _ (List.mem_of_getElem? (i := 39) rfl))) (List.mem_cons_of_mem _ (List.mem_append_left _ (List.mem_of_getElem? (i := 40) rfl))) (gi_sub (fun w h => (List.mem_cons_of_mem _ (List.mem_append_right _ (List.mem_append_right _ (List.mem_append_left _ h))))) zg_m22_X12_plain)) rfl rfl rfl (by decide +kernel) ⟨Nat.le_of_ble_eq_true rfl, Nat.le_of_ble_eq_true rfl⟩ 0 rfl rfl rfl rfl (Nat.le_of_ble_eq_true rfl) ⟨Nat.le_of_ble_eq_true rfl, Nat.le_of_ble_eq_true rfl⟩ dX12_init_250 (fun v ty' w' hp hk' => ?_)
  obtain ⟨rfl, rfl⟩ := hp
  show GW κ 1 29 14217 (wM r g iM0 (up3 (up3 aM0 13 0 2) 16 0 8) lM0) 253 [(0, .ref (r 0))] []
  refine g_aload_n hk dX12_init_253 rfl ?_
  refine g_iconst (v := 1) hk dX12_init_254 (by decide) ?_
  refine g_callV (n := 1) hk (m23_X12_plain l D zt g r) (SP.same _) (fun _ h => h) (gi_V (List.mem_cons_of_mem _ (List.mem_append_left _ (List.mem_of_getElem? (i := 37) rfl))) (List.mem_cons_of_mem _ (List.mem_append_left _ (List.mem_of_getElem? (i := 38) rfl))) (List.mem_cons_of_mem _ (List.mem_append_left _ (List.mem_of_getElem? (i := 39) rfl))) (List.mem_cons_of_mem _ (List.mem_append_left _ (List.mem_of_getElem? (i := 40) rfl))) (gi_sub (fun w h => (List.mem_cons_of_mem _ (List.mem_append_right _ (List.mem_append_right _ (List.mem_append_right _ (List.mem_append_left _ h)))))) zg_m23_X12_plain)) rfl rfl rfl (by decide +kernel) ⟨Nat.le_of_ble_eq_true rfl, Nat.le_of_ble_eq_true rfl⟩ 0 rfl rfl rfl rfl (Nat.le_of_ble_eq_true rfl) ⟨Nat.le_of_ble_eq_true rfl, Nat.le_of_ble_eq_true rfl⟩ dX12_init_255 (fun v ty' w' hp hk' => ?_)
  obtain ⟨rfl, rfl⟩ := hp
  show GW κ 1 29 14217 (wM r g iM0 (up3 (up3 (up3 (up3 aM0 13 0 2) 16 0 8) 13 1 2) 16 1 8) lM0) 258 [(0, .ref (r 0))] []
  refine g_aload_n hk dX12_init_258 rfl ?_
  refine g_iconst (v := (-1)) hk dX12_init_259 (by decide) ?_
  refine pM_i14 hk hin12 (List.mem_cons_of_mem _ (List.mem_append_left _ (List.mem_of_getElem? (i := 41) rfl))) dX12_init_260 ?_
  refine g_aload_n hk dX12_init_263 rfl ?_
  refine gM_r0_9 hk hin12 (List.mem_cons_of_mem _ (List.mem_append_left _ (List.mem_of_getElem? (i := 12) rfl))) dX12_init_264 ?_
  refine g_iconst (v := 0) hk dX12_init_267 (by decide) ?_
  refine g_bipush (v := 115) hk dX12_init_268 (by decide) ?_
  refine g_bipush (v := 101) hk dX12_init_270 (by decide) ?_
  refine g_bipush (v := 114) hk dX12_init_272 (by decide) ?_
  refine g_bipush (v := 105) hk dX12_init_274 (by decide) ?_
  refine g_bipush (v := 101) hk dX12_init_276 (by decide) ?_
  refine g_bipush (v := 115) hk dX12_init_278 (by decide) ?_
  refine g_iconst (v := 0) hk dX12_init_280 (by decide) ?_
  refine g_callS (n := 7) hk (m24_X12_letters l D zt g r) (SP.same _) (fun _ h => h) (gi_S (List.mem_cons_of_mem _ (List.mem_append_left _ (List.mem_of_getElem? (i := 42) rfl))) (List.mem_cons_of_mem _ (List.mem_append_left _ (List.mem_of_getElem? (i := 43) rfl))) (List.mem_cons_of_mem _ (List.mem_append_left _ (List.mem_of_getElem? (i := 40) rfl))) (gi_sub (fun w h => (List.mem_cons_of_mem _ (List.mem_append_right _ (List.mem_append_right _ (List.mem_append_right _ (List.mem_append_right _ (List.mem_append_left _ h))))))) zg_m24_X12_letters)) rfl rfl rfl (by decide +kernel) ⟨Nat.le_of_ble_eq_true rfl, Nat.le_of_ble_eq_true rfl⟩ rfl rfl (Nat.le_of_ble_eq_true rfl) ⟨Nat.le_of_ble_eq_true rfl, Nat.le_of_ble_eq_true rfl⟩ dX12_init_281 (fun v ty' w' hp hk' => ?_)
  obtain ⟨rfl, rfl⟩ := hp
  show GW κ 1 29 14217 (wM r g (upd iM0 14 (-1)) (up3 (up3 (up3 (up3 aM0 13 0 2) 16 0 8) 13 1 2) 16 1 8) lM0) 284 [(0, .ref (r 0))] [.long 275647447, .int 0, .ref (r 7)]
  refine sM_6 (j := 0) hk (vp_in_iff.mpr ⟨by decide, by decide⟩) (by decide) dX12_init_284 ?_
  refine g_aload_n hk dX12_init_285 rfl ?_
  refine gM_r0_9 hk hin12 (List.mem_cons_of_mem _ (List.mem_append_left _ (List.mem_of_getElem? (i := 12) rfl))) dX12_init_286 ?_
  refine g_iconst (v := 1) hk dX12_init_289 (by decide) ?_
  refine g_bipush (v := 113) hk dX12_init_290 (by decide) ?_
  refine g_bipush (v := 117) hk dX12_init_292 (by decide) ?_
  refine g_bipush (v := 101) hk dX12_init_294 (by decide) ?_
  refine g_bipush (v := 114) hk dX12_init_296 (by decide) ?_
  refine g_bipush (v := 121) hk dX12_init_298 (by decide) ?_
  refine g_iconst (v := 0) hk dX12_init_300 (by decide) ?_
  refine g_iconst (v := 0) hk dX12_init_301 (by decide) ?_
  refine g_callS (n := 7) hk (m32_X12_letters l D zt g r) (SP.same _) (fun _ h => h) (gi_S (List.mem_cons_of_mem _ (List.mem_append_left _ (List.mem_of_getElem? (i := 42) rfl))) (List.mem_cons_of_mem _ (List.mem_append_left _ (List.mem_of_getElem? (i := 43) rfl))) (List.mem_cons_of_mem _ (List.mem_append_left _ (List.mem_of_getElem? (i := 40) rfl))) (gi_sub (fun w h => (List.mem_cons_of_mem _ (List.mem_append_right _ (List.mem_append_right _ (List.mem_append_right _ (List.mem_append_right _ (List.mem_append_right _ (List.mem_append_left _ h)))))))) zg_m32_X12_letters)) rfl rfl rfl (by decide +kernel) ⟨Nat.le_of_ble_eq_true rfl, Nat.le_of_ble_eq_true rfl⟩ rfl rfl (Nat.le_of_ble_eq_true rfl) ⟨Nat.le_of_ble_eq_true rfl, Nat.le_of_ble_eq_true rfl⟩ dX12_init_302 (fun v ty' w' hp hk' => ?_)
  obtain ⟨rfl, rfl⟩ := hp
  show GW κ 1 29 14217 (wM r g (upd iM0 14 (-1)) (up3 (up3 (up3 (up3 aM0 13 0 2) 16 0 8) 13 1 2) 16 1 8) (up3L lM0 6 0 275647447)) 305 [(0, .ref (r 0))] [.long 9451996, .int 1, .ref (r 7)]
  refine sM_6 (j := 1) hk (vp_in_iff.mpr ⟨by decide, by decide⟩) (by decide) dX12_init_305 ?_
  refine g_aload_n hk dX12_init_306 rfl ?_
  refine gM_r0_9 hk hin12 (List.mem_cons_of_mem _ (List.mem_append_left _ (List.mem_of_getElem? (i := 12) rfl))) dX12_init_307 ?_
  refine g_iconst (v := 2) hk dX12_init_310 (by decide) ?_
  refine g_bipush (v := 98) hk dX12_init_311 (by decide) ?_
  refine g_bipush (v := 97) hk dX12_init_313 (by decide) ?_
  refine g_bipush (v := 110) hk dX12_init_315 (by decide) ?_
  refine g_bipush (v := 100) hk dX12_init_317 (by decide) ?_
  refine g_iconst (v := 0) hk dX12_init_319 (by decide) ?_
  refine g_iconst (v := 0) hk dX12_init_320 (by decide) ?_
  refine g_iconst (v := 0) hk dX12_init_321 (by decide) ?_
  refine g_callS (n := 7) hk (m39_X12_letters l D zt g r) (SP.same _) (fun _ h => h) (gi_S (List.mem_cons_of_mem _ (List.mem_append_left _ (List.mem_of_getElem? (i := 42) rfl))) (List.mem_cons_of_mem _ (List.mem_append_left _ (List.mem_of_getElem? (i := 43) rfl))) (List.mem_cons_of_mem _ (List.mem_append_left _ (List.mem_of_getElem? (i := 40) rfl))) (gi_sub (fun w h => (List.mem_cons_of_mem _ (List.mem_append_right _ (List.mem_append_right _ (List.mem_append_right _ (List.mem_append_right _ (List.mem_append_right _ (List.mem_append_right _ (List.mem_append_left _ h))))))))) zg_m39_X12_letters)) rfl rfl rfl (by decide +kernel) ⟨Nat.le_of_ble_eq_true rfl, Nat.le_of_ble_eq_true rfl⟩ rfl rfl (Nat.le_of_ble_eq_true rfl) ⟨Nat.le_of_ble_eq_true rfl, Nat.le_of_ble_eq_true rfl⟩ dX12_init_322 (fun v ty' w' hp hk' => ?_)
  obtain ⟨rfl, rfl⟩ := hp
  show GW κ 1 29 14217 (wM r g (upd iM0 14 (-1)) (up3 (up3 (up3 (up3 aM0 13 0 2) 16 0 8) 13 1 2) 16 1 8) (up3L (up3L lM0 6 0 275647447) 6 1 9451996)) 325 [(0, .ref (r 0))] [.long 40477, .int 2, .ref (r 7)]
  refine sM_6 (j := 2) hk (vp_in_iff.mpr ⟨by decide, by decide⟩) (by decide) dX12_init_325 ?_
  refine g_aload_n hk dX12_init_326 rfl ?_
  refine gM_r0_9 hk hin12 (List.mem_cons_of_mem _ (List.mem_append_left _ (List.mem_of_getElem? (i := 12) rfl))) dX12_init_327 ?_
  refine g_iconst (v := 3) hk dX12_init_330 (by decide) ?_
  refine g_bipush (v := 108) hk dX12_init_331 (by decide) ?_
  refine g_bipush (v := 101) hk dX12_init_333 (by decide) ?_
  refine g_bipush (v := 118) hk dX12_init_335 (by decide) ?_
  refine g_bipush (v := 101) hk dX12_init_337 (by decide) ?_
  refine g_bipush (v := 108) hk dX12_init_339 (by decide) ?_
  refine g_iconst (v := 0) hk dX12_init_341 (by decide) ?_
  refine g_iconst (v := 0) hk dX12_init_342 (by decide) ?_
  refine g_callS (n := 7) hk (m45_X12_letters l D zt g r) (SP.same _) (fun _ h => h) (gi_S (List.mem_cons_of_mem _ (List.mem_append_left _ (List.mem_of_getElem? (i := 42) rfl))) (List.mem_cons_of_mem _ (List.mem_append_left _ (List.mem_of_getElem? (i := 43) rfl))) (List.mem_cons_of_mem _ (List.mem_append_left _ (List.mem_of_getElem? (i := 40) rfl))) (gi_sub (fun w h => (List.mem_cons_of_mem _ (List.mem_append_right _ (List.mem_append_right _ (List.mem_append_right _ (List.mem_append_right _ (List.mem_append_right _ (List.mem_append_right _ (List.mem_append_right _ (List.mem_append_left _ h)))))))))) zg_m45_X12_letters)) rfl rfl rfl (by decide +kernel) ⟨Nat.le_of_ble_eq_true rfl, Nat.le_of_ble_eq_true rfl⟩ rfl rfl (Nat.le_of_ble_eq_true rfl) ⟨Nat.le_of_ble_eq_true rfl, Nat.le_of_ble_eq_true rfl⟩ dX12_init_343 (fun v ty' w' hp hk' => ?_)
  obtain ⟨rfl, rfl⟩ := hp
  show GW κ 1 29 14217 (wM r g (upd iM0 14 (-1)) (up3 (up3 (up3 (up3 aM0 13 0 2) 16 0 8) 13 1 2) 16 1 8) (up3L (up3L (up3L lM0 6 0 275647447) 6 1 9451996) 6 2 40477)) 346 [(0, .ref (r 0))] [.long 6491892, .int 3, .ref (r 7)]
  refine sM_6 (j := 3) hk (vp_in_iff.mpr ⟨by decide, by decide⟩) (by decide) dX12_init_346 ?_
  refine g_aload_n hk dX12_init_347 rfl ?_
  refine gM_r0_9 hk hin12 (List.mem_cons_of_mem _ (List.mem_append_left _ (List.mem_of_getElem? (i := 12) rfl))) dX12_init_348 ?_
  refine g_iconst (v := 4) hk dX12_init_351 (by decide) ?_
  refine g_bipush (v := 99) hk dX12_init_352 (by decide) ?_
  refine g_bipush (v := 111) hk dX12_init_354 (by decide) ?_
  refine g_bipush (v := 115) hk dX12_init_356 (by decide) ?_
  refine g_bipush (v := 116) hk dX12_init_358 (by decide) ?_
  refine g_iconst (v := 0) hk dX12_init_360 (by decide) ?_
  refine g_iconst (v := 0) hk dX12_init_361 (by decide) ?_
  refine g_iconst (v := 0) hk dX12_init_362 (by decide) ?_
  refine g_callS (n := 7) hk (m52_X12_letters l D zt g r) (SP.same _) (fun _ h => h) (gi_S (List.mem_cons_of_mem _ (List.mem_append_left _ (List.mem_of_getElem? (i := 42) rfl))) (List.mem_cons_of_mem _ (List.mem_append_left _ (List.mem_of_getElem? (i := 43) rfl))) (List.mem_cons_of_mem _ (List.mem_append_left _ (List.mem_of_getElem? (i := 40) rfl))) (gi_sub (fun w h => (List.mem_cons_of_mem _ (List.mem_append_right _ (List.mem_append_right _ (List.mem_append_right _ (List.mem_append_right _ (List.mem_append_right _ (List.mem_append_right _ (List.mem_append_right _ (List.mem_append_right _ (List.mem_append_left _ h))))))))))) zg_m52_X12_letters)) rfl rfl rfl (by decide +kernel) ⟨Nat.le_of_ble_eq_true rfl, Nat.le_of_ble_eq_true rfl⟩ rfl rfl (Nat.le_of_ble_eq_true rfl) ⟨Nat.le_of_ble_eq_true rfl, Nat.le_of_ble_eq_true rfl⟩ dX12_init_363 (fun v ty' w' hp hk' => ?_)
  obtain ⟨rfl, rfl⟩ := hp
  show GW κ 1 29 14217 (wM r g (upd iM0 14 (-1)) (up3 (up3 (up3 (up3 aM0 13 0 2) 16 0 8) 13 1 2) 16 1 8) (up3L (up3L (up3L (up3L lM0 6 0 275647447) 6 1 9451996) 6 2 40477) 6 3 6491892)) 366 [(0, .ref (r 0))] [.long 70517, .int 4, .ref (r 7)]
  refine sM_6 (j := 4) hk (vp_in_iff.mpr ⟨by decide, by decide⟩) (by decide) dX12_init_366 ?_
  refine g_aload_n hk dX12_init_367 rfl ?_
  refine gM_r0_9 hk hin12 (List.mem_cons_of_mem _ (List.mem_append_left _ (List.mem_of_getElem? (i := 12) rfl))) dX12_init_368 ?_
  refine g_iconst (v := 5) hk dX12_init_371 (by decide) ?_
  refine g_bipush (v := 97) hk dX12_init_372 (by decide) ?_
  refine g_bipush (v := 112) hk dX12_init_374 (by decide) ?_
  refine g_bipush (v := 97) hk dX12_init_376 (by decide) ?_
  refine g_bipush (v := 114) hk dX12_init_378 (by decide) ?_
  refine g_bipush (v := 116) hk dX12_init_380 (by decide) ?_
  refine g_iconst (v := 0) hk dX12_init_382 (by decide) ?_
  refine g_iconst (v := 0) hk dX12_init_383 (by decide) ?_
  refine g_callS (n := 7) hk (m58_X12_letters l D zt g r) (SP.same _) (fun _ h => h) (gi_S (List.mem_cons_of_mem _ (List.mem_append_left _ (List.mem_of_getElem? (i := 42) rfl))) (List.mem_cons_of_mem _ (List.mem_append_left _ (List.mem_of_getElem? (i := 43) rfl))) (List.mem_cons_of_mem _ (List.mem_append_left _ (List.mem_of_getElem? (i := 40) rfl))) (gi_sub (fun w h => (List.mem_cons_of_mem _ (List.mem_append_right _ (List.mem_append_right _ (List.mem_append_right _ (List.mem_append_right _ (List.mem_append_right _ (List.mem_append_right _ (List.mem_append_right _ (List.mem_append_right _ (List.mem_append_right _ (List.mem_append_left _ h)))))))))))) zg_m58_X12_letters)) rfl rfl rfl (by decide +kernel) ⟨Nat.le_of_ble_eq_true rfl, Nat.le_of_ble_eq_true rfl⟩ rfl rfl (Nat.le_of_ble_eq_true rfl) ⟨Nat.le_of_ble_eq_true rfl, Nat.le_of_ble_eq_true rfl⟩ dX12_init_384 (fun v ty' w' hp hk' => ?_)
  obtain ⟨rfl, rfl⟩ := hp
  show GW κ 1 29 14217 (wM r g (upd iM0 14 (-1)) (up3 (up3 (up3 (up3 aM0 13 0 2) 16 0 8) 13 1 2) 16 1 8) (up3L (up3L (up3L (up3L (up3L lM0 6 0 275647447) 6 1 9451996) 6 2 40477) 6 3 6491892) 6 4 70517)) 387 [(0, .ref (r 0))] [.long 847604, .int 5, .ref (r 7)]
  refine sM_6 (j := 5) hk (vp_in_iff.mpr ⟨by decide, by decide⟩) (by decide) dX12_init_387 ?_
  refine g_aload_n hk dX12_init_388 rfl ?_
  refine gM_r0_9 hk hin12 (List.mem_cons_of_mem _ (List.mem_append_left _ (List.mem_of_getElem? (i := 12) rfl))) dX12_init_389 ?_
  refine g_bipush (v := 6) hk dX12_init_392 (by decide) ?_
  refine g_bipush (v := 103) hk dX12_init_394 (by decide) ?_
  refine g_bipush (v := 97) hk dX12_init_396 (by decide) ?_
  refine g_bipush (v := 112) hk dX12_init_398 (by decide) ?_
  refine g_iconst (v := 0) hk dX12_init_400 (by decide) ?_
  refine g_iconst (v := 0) hk dX12_init_401 (by decide) ?_
  refine g_iconst (v := 0) hk dX12_init_402 (by decide) ?_
  refine g_iconst (v := 0) hk dX12_init_403 (by decide) ?_
  refine g_callS (n := 7) hk (m65_X12_letters l D zt g r) (SP.same _) (fun _ h => h) (gi_S (List.mem_cons_of_mem _ (List.mem_append_left _ (List.mem_of_getElem? (i := 42) rfl))) (List.mem_cons_of_mem _ (List.mem_append_left _ (List.mem_of_getElem? (i := 43) rfl))) (List.mem_cons_of_mem _ (List.mem_append_left _ (List.mem_of_getElem? (i := 40) rfl))) (gi_sub (fun w h => (List.mem_cons_of_mem _ (List.mem_append_right _ (List.mem_append_right _ (List.mem_append_right _ (List.mem_append_right _ (List.mem_append_right _ (List.mem_append_right _ (List.mem_append_right _ (List.mem_append_right _ (List.mem_append_right _ (List.mem_append_right _ (List.mem_append_left _ h))))))))))))) zg_m65_X12_letters)) rfl rfl rfl (by decide +kernel) ⟨Nat.le_of_ble_eq_true rfl, Nat.le_of_ble_eq_true rfl⟩ rfl rfl (Nat.le_of_ble_eq_true rfl) ⟨Nat.le_of_ble_eq_true rfl, Nat.le_of_ble_eq_true rfl⟩ dX12_init_404 (fun v ty' w' hp hk' => ?_)
  obtain ⟨rfl, rfl⟩ := hp
  show GW κ 1 29 14217 (wM r g (upd iM0 14 (-1)) (up3 (up3 (up3 (up3 aM0 13 0 2) 16 0 8) 13 1 2) 16 1 8) (up3L (up3L (up3L (up3L (up3L (up3L lM0 6 0 275647447) 6 1 9451996) 6 2 40477) 6 3 6491892) 6 4 70517) 6 5 847604)) 407 [(0, .ref (r 0))] [.long 5146, .int 6, .ref (r 7)]
  refine sM_6 (j := 6) hk (vp_in_iff.mpr ⟨by decide, by decide⟩) (by decide) dX12_init_407 ?_
  refine g_aload_n hk dX12_init_408 rfl ?_
  refine gM_r0_9 hk hin12 (List.mem_cons_of_mem _ (List.mem_append_left _ (List.mem_of_getElem? (i := 12) rfl))) dX12_init_409 ?_
  refine g_bipush (v := 7) hk dX12_init_412 (by decide) ?_
  refine g_bipush (v := 110) hk dX12_init_414 (by decide) ?_
  refine g_bipush (v := 111) hk dX12_init_416 (by decide) ?_
  refine g_bipush (v := 110) hk dX12_init_418 (by decide) ?_
  refine g_bipush (v := 101) hk dX12_init_420 (by decide) ?_
  refine g_iconst (v := 0) hk dX12_init_422 (by decide) ?_
  refine g_iconst (v := 0) hk dX12_init_423 (by decide) ?_
  refine g_iconst (v := 0) hk dX12_init_424 (by decide) ?_
  refine g_callS (n := 7) hk (m70_X12_letters l D zt g r) (SP.same _) (fun _ h => h) (gi_S (List.mem_cons_of_mem _ (List.mem_append_left _ (List.mem_of_getElem? (i := 42) rfl))) (List.mem_cons_of_mem _ (List.mem_append_left _ (List.mem_of_getElem? (i := 43) rfl))) (List.mem_cons_of_mem _ (List.mem_append_left _ (List.mem_of_getElem? (i := 40) rfl))) (gi_sub (fun w h => (List.mem_cons_of_mem _ (List.mem_append_right _ (List.mem_append_right _ (List.mem_append_right _ (List.mem_append_right _ (List.mem_append_right _ (List.mem_append_right _ (List.mem_append_right _ (List.mem_append_right _ (List.mem_append_right _ (List.mem_append_right _ (List.mem_append_right _ (List.mem_append_left _ h)))))))))))))) zg_m70_X12_letters)) rfl rfl rfl (by decide +kernel) ⟨Nat.le_of_ble_eq_true rfl, Nat.le_of_ble_eq_true rfl⟩ rfl rfl (Nat.le_of_ble_eq_true rfl) ⟨Nat.le_of_ble_eq_true rfl, Nat.le_of_ble_eq_true rfl⟩ dX12_init_425 (fun v ty' w' hp hk' => ?_)
  obtain ⟨rfl, rfl⟩ := hp
  show GW κ 1 29 14217 (wM r g (upd iM0 14 (-1)) (up3 (up3 (up3 (up3 aM0 13 0 2) 16 0 8) 13 1 2) 16 1 8) (up3L (up3L (up3L (up3L (up3L (up3L (up3L lM0 6 0 275647447) 6 1 9451996) 6 2 40477) 6 3 6491892) 6 4 70517) 6 5 847604) 6 6 5146)) 428 [(0, .ref (r 0))] [.long 286880, .int 7, .ref (r 7)]
  refine sM_6 (j := 7) hk (vp_in_iff.mpr ⟨by decide, by decide⟩) (by decide) dX12_init_428 ?_
  refine g_aload_n hk dX12_init_429 rfl ?_
  refine gM_r0_9 hk hin12 (List.mem_cons_of_mem _ (List.mem_append_left _ (List.mem_of_getElem? (i := 12) rfl))) dX12_init_430 ?_
  refine g_bipush (v := 8) hk dX12_init_433 (by decide) ?_
  refine g_bipush (v := 109) hk dX12_init_435 (by decide) ?_
  refine g_bipush (v := 101) hk dX12_init_437 (by decide) ?_
  refine g_bipush (v := 97) hk dX12_init_439 (by decide) ?_
  refine g_bipush (v := 110) hk dX12_init_441 (by decide) ?_
  refine g_iconst (v := 0) hk dX12_init_443 (by decide) ?_
  refine g_iconst (v := 0) hk dX12_init_444 (by decide) ?_
  refine g_iconst (v := 0) hk dX12_init_445 (by decide) ?_
  refine g_callS (n := 7) hk (m76_X12_letters l D zt g r) (SP.same _) (fun _ h => h) (gi_S (List.mem_cons_of_mem _ (List.mem_append_left _ (List.mem_of_getElem? (i := 42) rfl))) (List.mem_cons_of_mem _ (List.mem_append_left _ (List.mem_of_getElem? (i := 43) rfl))) (List.mem_cons_of_mem _ (List.mem_append_left _ (List.mem_of_getElem? (i := 40) rfl))) (gi_sub (fun w h => (List.mem_cons_of_mem _ (List.mem_append_right _ (List.mem_append_right _ (List.mem_append_right _ (List.mem_append_right _ (List.mem_append_right _ (List.mem_append_right _ (List.mem_append_right _ (List.mem_append_right _ (List.mem_append_right _ (List.mem_append_right _ (List.mem_append_right _ (List.mem_append_right _ (List.mem_append_left _ h))))))))))))))) zg_m76_X12_letters)) rfl rfl rfl (by decide +kernel) ⟨Nat.le_of_ble_eq_true rfl, Nat.le_of_ble_eq_true rfl⟩ rfl rfl (Nat.le_of_ble_eq_true rfl) ⟨Nat.le_of_ble_eq_true rfl, Nat.le_of_ble_eq_true rfl⟩ dX12_init_446 (fun v ty' w' hp hk' => ?_)
  obtain ⟨rfl, rfl⟩ := hp
  show GW κ 1 29 14217 (wM r g (upd iM0 14 (-1)) (up3 (up3 (up3 (up3 aM0 13 0 2) 16 0 8) 13 1 2) 16 1 8) (up3L (up3L (up3L (up3L (up3L (up3L (up3L (up3L lM0 6 0 275647447) 6 1 9451996) 6 2 40477) 6 3 6491892) 6 4 70517) 6 5 847604) 6 6 5146) 6 7 286880)) 449 [(0, .ref (r 0))] [.long 259565, .int 8, .ref (r 7)]
  refine sM_6 (j := 8) hk (vp_in_iff.mpr ⟨by decide, by decide⟩) (by decide) dX12_init_449 ?_
  refine g_aload_n hk dX12_init_450 rfl ?_
  refine gM_r0_9 hk hin12 (List.mem_cons_of_mem _ (List.mem_append_left _ (List.mem_of_getElem? (i := 12) rfl))) dX12_init_451 ?_
  refine g_bipush (v := 9) hk dX12_init_454 (by decide) ?_
  refine g_bipush (v := 102) hk dX12_init_456 (by decide) ?_
  refine g_bipush (v := 105) hk dX12_init_458 (by decide) ?_
  refine g_bipush (v := 114) hk dX12_init_460 (by decide) ?_
  refine g_bipush (v := 115) hk dX12_init_462 (by decide) ?_
  refine g_bipush (v := 116) hk dX12_init_464 (by decide) ?_
  refine g_iconst (v := 0) hk dX12_init_466 (by decide) ?_
  refine g_iconst (v := 0) hk dX12_init_467 (by decide) ?_
  refine g_callS (n := 7) hk (m82_X12_letters l D zt g r) (SP.same _) (fun _ h => h) (gi_S (List.mem_cons_of_mem _ (List.mem_append_left _ (List.mem_of_getElem? (i := 42) rfl))) (List.mem_cons_of_mem _ (List.mem_append_left _ (List.mem_of_getElem? (i := 43) rfl))) (List.mem_cons_of_mem _ (List.mem_append_left _ (List.mem_of_getElem? (i := 40) rfl))) (gi_sub (fun w h => (List.mem_cons_of_mem _ (List.mem_append_right _ (List.mem_append_right _ (List.mem_append_right _ (List.mem_append_right _ (List.mem_append_right _ (List.mem_append_right _ (List.mem_append_right _ (List.mem_append_right _ (List.mem_append_right _ (List.mem_append_right _ (List.mem_append_right _ (List.mem_append_right _ (List.mem_append_right _ (List.mem_append_left _ h)))))))))))))))) zg_m82_X12_letters)) rfl rfl rfl (by decide +kernel) ⟨Nat.le_of_ble_eq_true rfl, Nat.le_of_ble_eq_true rfl⟩ rfl rfl (Nat.le_of_ble_eq_true rfl) ⟨Nat.le_of_ble_eq_true rfl, Nat.le_of_ble_eq_true rfl⟩ dX12_init_468 (fun v ty' w' hp hk' => ?_)
  obtain ⟨rfl, rfl⟩ := hp
  show GW κ 1 29 14217 (wM r g (upd iM0 14 (-1)) (up3 (up3 (up3 (up3 aM0 13 0 2) 16 0 8) 13 1 2) 16 1 8) (up3L (up3L (up3L (up3L (up3L (up3L (up3L (up3L (up3L lM0 6 0 275647447) 6 1 9451996) 6 2 40477) 6 3 6491892) 6 4 70517) 6 5 847604) 6 6 5146) 6 7 286880) 6 8 259565)) 471 [(0, .ref (r 0))] [.long 3379448, .int 9, .ref (r 7)]
  refine sM_6 (j := 9) hk (vp_in_iff.mpr ⟨by decide, by decide⟩) (by decide) dX12_init_471 ?_
  refine g_aload_n hk dX12_init_472 rfl ?_
  refine gM_r0_9 hk hin12 (List.mem_cons_of_mem _ (List.mem_append_left _ (List.mem_of_getElem? (i := 12) rfl))) dX12_init_473 ?_
  refine g_bipush (v := 10) hk dX12_init_476 (by decide) ?_
  refine g_bipush (v := 114) hk dX12_init_478 (by decide) ?_
  refine g_bipush (v := 97) hk dX12_init_480 (by decide) ?_
  refine g_bipush (v := 110) hk dX12_init_482 (by decide) ?_
  refine g_bipush (v := 103) hk dX12_init_484 (by decide) ?_
  refine g_bipush (v := 101) hk dX12_init_486 (by decide) ?_
  refine g_iconst (v := 0) hk dX12_init_488 (by decide) ?_
  refine g_iconst (v := 0) hk dX12_init_489 (by decide) ?_
  refine g_callS (n := 7) hk (m89_X12_letters l D zt g r) (SP.same _) (fun _ h => h) (gi_S (List.mem_cons_of_mem _ (List.mem_append_left _ (List.mem_of_getElem? (i := 42) rfl))) (List.mem_cons_of_mem _ (List.mem_append_left _ (List.mem_of_getElem? (i := 43) rfl))) (List.mem_cons_of_mem _ (List.mem_append_left _ (List.mem_of_getElem? (i := 40) rfl))) (gi_sub (fun w h => (List.mem_cons_of_mem _ (List.mem_append_right _ (List.mem_append_right _ (List.mem_append_right _ (List.mem_append_right _ (List.mem_append_right _ (List.mem_append_right _ (List.mem_append_right _ (List.mem_append_right _ (List.mem_append_right _ (List.mem_append_right _ (List.mem_append_right _ (List.mem_append_right _ (List.mem_append_right _ (List.mem_append_right _ (List.mem_append_left _ h))))))))))))))))) zg_m89_X12_letters)) rfl rfl rfl (by decide +kernel) ⟨Nat.le_of_ble_eq_true rfl, Nat.le_of_ble_eq_true rfl⟩ rfl rfl (Nat.le_of_ble_eq_true rfl) ⟨Nat.le_of_ble_eq_true rfl, Nat.le_of_ble_eq_true rfl⟩ dX12_init_490 (fun v ty' w' hp hk' => ?_)
  obtain ⟨rfl, rfl⟩ := hp
  show GW κ 1 29 14217 (wM r g (upd iM0 14 (-1)) (up3 (up3 (up3 (up3 aM0 13 0 2) 16 0 8) 13 1 2) 16 1 8) (up3L (up3L (up3L (up3L (up3L (up3L (up3L (up3L (up3L (up3L lM0 6 0 275647447) 6 1 9451996) 6 2 40477) 6 3 6491892) 6 4 70517) 6 5 847604) 6 6 5146) 6 7 286880) 6 8 259565) 6 9 3379448)) 493 [(0, .ref (r 0))] [.long 9596021, .int 10, .ref (r 7)]
  refine sM_6 (j := 10) hk (vp_in_iff.mpr ⟨by decide, by decide⟩) (by decide) dX12_init_493 ?_
  refine g_aload_n hk dX12_init_494 rfl ?_
  refine gM_r0_9 hk hin12 (List.mem_cons_of_mem _ (List.mem_append_left _ (List.mem_of_getElem? (i := 12) rfl))) dX12_init_495 ?_
  refine g_bipush (v := 11) hk dX12_init_498 (by decide) ?_
  refine g_bipush (v := 112) hk dX12_init_500 (by decide) ?_
  refine g_bipush (v := 108) hk dX12_init_502 (by decide) ?_
  refine g_bipush (v := 97) hk dX12_init_504 (by decide) ?_
  refine g_bipush (v := 105) hk dX12_init_506 (by decide) ?_
  refine g_bipush (v := 110) hk dX12_init_508 (by decide) ?_
  refine g_iconst (v := 0) hk dX12_init_510 (by decide) ?_
  refine g_iconst (v := 0) hk dX12_init_511 (by decide) ?_
  refine g_callS (n := 7) hk (m96_X12_letters l D zt g r) (SP.same _) (fun _ h => h) (gi_S (List.mem_cons_of_mem _ (List.mem_append_left _ (List.mem_of_getElem? (i := 42) rfl))) (List.mem_cons_of_mem _ (List.mem_append_left _ (List.mem_of_getElem? (i := 43) rfl))) (List.mem_cons_of_mem _ (List.mem_append_left _ (List.mem_of_getElem? (i := 40) rfl))) (gi_sub (fun w h => (List.mem_cons_of_mem _ (List.mem_append_right _ (List.mem_append_right _ (List.mem_append_right _ (List.mem_append_right _ (List.mem_append_right _ (List.mem_append_right _ (List.mem_append_right _ (List.mem_append_right _ (List.mem_append_right _ (List.mem_append_right _ (List.mem_append_right _ (List.mem_append_right _ (List.mem_append_right _ (List.mem_append_right _ (List.mem_append_right _ (List.mem_append_left _ h)))))))))))))))))) zg_m96_X12_letters)) rfl rfl rfl (by decide +kernel) ⟨Nat.le_of_ble_eq_true rfl, Nat.le_of_ble_eq_true rfl⟩ rfl rfl (Nat.le_of_ble_eq_true rfl) ⟨Nat.le_of_ble_eq_true rfl, Nat.le_of_ble_eq_true rfl⟩ dX12_init_512 (fun v ty' w' hp hk' => ?_)
  obtain ⟨rfl, rfl⟩ := hp
  show GW κ 1 29 14217 (wM r g (upd iM0 14 (-1)) (up3 (up3 (up3 (up3 aM0 13 0 2) 16 0 8) 13 1 2) 16 1 8) (up3L (up3L (up3L (up3L (up3L (up3L (up3L (up3L (up3L (up3L (up3L lM0 6 0 275647447) 6 1 9451996) 6 2 40477) 6 3 6491892) 6 4 70517) 6 5 847604) 6 6 5146) 6 7 286880) 6 8 259565) 6 9 3379448) 6 10 9596021)) 515 [(0, .ref (r 0))] [.long 8740238, .int 11, .ref (r 7)]
  refine sM_6 (j := 11) hk (vp_in_iff.mpr ⟨by decide, by decide⟩) (by decide) dX12_init_515 ?_
  refine g_aload_n hk dX12_init_516 rfl ?_
  refine gM_r0_9 hk hin12 (List.mem_cons_of_mem _ (List.mem_append_left _ (List.mem_of_getElem? (i := 12) rfl))) dX12_init_517 ?_
  refine g_bipush (v := 12) hk dX12_init_520 (by decide) ?_
  refine g_bipush (v := 115) hk dX12_init_522 (by decide) ?_
  refine g_bipush (v := 113) hk dX12_init_524 (by decide) ?_
  refine g_bipush (v := 117) hk dX12_init_526 (by decide) ?_
  refine g_bipush (v := 97) hk dX12_init_528 (by decide) ?_
  refine g_bipush (v := 114) hk dX12_init_530 (by decide) ?_
  refine g_bipush (v := 101) hk dX12_init_532 (by decide) ?_
  refine g_iconst (v := 0) hk dX12_init_534 (by decide) ?_
  refine g_callS (n := 7) hk (m103_X12_letters l D zt g r) (SP.same _) (fun _ h => h) (gi_S (List.mem_cons_of_mem _ (List.mem_append_left _ (List.mem_of_getElem? (i := 42) rfl))) (List.mem_cons_of_mem _ (List.mem_append_left _ (List.mem_of_getElem? (i := 43) rfl))) (List.mem_cons_of_mem _ (List.mem_append_left _ (List.mem_of_getElem? (i := 40) rfl))) (gi_sub (fun w h => (List.mem_cons_of_mem _ (List.mem_append_right _ (List.mem_append_right _ (List.mem_append_right _ (List.mem_append_right _ (List.mem_append_right _ (List.mem_append_right _ (List.mem_append_right _ (List.mem_append_right _ (List.mem_append_right _ (List.mem_append_right _ (List.mem_append_right _ (List.mem_append_right _ (List.mem_append_right _ (List.mem_append_right _ (List.mem_append_right _ (List.mem_append_right _ (List.mem_append_left _ h))))))))))))))))))) zg_m103_X12_letters)) rfl rfl rfl (by decide +kernel) ⟨Nat.le_of_ble_eq_true rfl, Nat.le_of_ble_eq_true rfl⟩ rfl rfl (Nat.le_of_ble_eq_true rfl) ⟨Nat.le_of_ble_eq_true rfl, Nat.le_of_ble_eq_true rfl⟩ dX12_init_535 (fun v ty' w' hp hk' => ?_)
  obtain ⟨rfl, rfl⟩ := hp
  show GW κ 1 29 14217 (wM r g (upd iM0 14 (-1)) (up3 (up3 (up3 (up3 aM0 13 0 2) 16 0 8) 13 1 2) 16 1 8) (up3L (up3L (up3L (up3L (up3L (up3L (up3L (up3L (up3L (up3L (up3L (up3L lM0 6 0 275647447) 6 1 9451996) 6 2 40477) 6 3 6491892) 6 4 70517) 6 5 847604) 6 6 5146) 6 7 286880) 6 8 259565) 6 9 3379448) 6 10 9596021) 6 11 8740238)) 538 [(0, .ref (r 0))] [.long 282078293, .int 12, .ref (r 7)]
  refine sM_6 (j := 12) hk (vp_in_iff.mpr ⟨by decide, by decide⟩) (by decide) dX12_init_538 ?_
  refine g_aload_n hk dX12_init_539 rfl ?_
  refine g_callV (n := 0) hk (m111_X12_begins l D zt g r) (SP.same _) (fun _ h => h) (gi_V (List.mem_cons_of_mem _ (List.mem_append_left _ (List.mem_of_getElem? (i := 44) rfl))) (List.mem_cons_of_mem _ (List.mem_append_left _ (List.mem_of_getElem? (i := 45) rfl))) (List.mem_cons_of_mem _ (List.mem_append_left _ (List.mem_of_getElem? (i := 46) rfl))) (List.mem_cons_of_mem _ (List.mem_append_left _ (List.mem_of_getElem? (i := 40) rfl))) (gi_sub (fun w h => (List.mem_cons_of_mem _ (List.mem_append_right _ (List.mem_append_right _ (List.mem_append_right _ (List.mem_append_right _ (List.mem_append_right _ (List.mem_append_right _ (List.mem_append_right _ (List.mem_append_right _ (List.mem_append_right _ (List.mem_append_right _ (List.mem_append_right _ (List.mem_append_right _ (List.mem_append_right _ (List.mem_append_right _ (List.mem_append_right _ (List.mem_append_right _ (List.mem_append_right _ (List.mem_append_left _ h)))))))))))))))))))) zg_m111_X12_begins)) rfl rfl rfl (by decide +kernel) ⟨Nat.le_of_ble_eq_true rfl, Nat.le_of_ble_eq_true rfl⟩ 0 rfl rfl rfl rfl (Nat.le_of_ble_eq_true rfl) ⟨Nat.le_of_ble_eq_true rfl, Nat.le_of_ble_eq_true rfl⟩ dX12_init_540 (fun v ty' w' hp hk' => ?_)
  obtain ⟨rfl, rfl⟩ := hp
  show GW κ 1 29 14217 (wM r g (upd iM0 14 (-1)) (up3 (up3 (up2 (up3 (up3 (up3 (up3 aM0 13 0 2) 16 0 8) 13 1 2) 16 1 8) 18 (cp (fun _ => 0) ((up3 (up3 (up3 (up3 aM0 13 0 2) 16 0 8) 13 1 2) 16 1 8) 18) 165)) 18 161 2) 18 164 8) (up3L (up3L (up3L (up3L (up3L (up3L (up3L (up3L (up3L (up3L (up3L (up3L (up3L lM0 6 0 275647447) 6 1 9451996) 6 2 40477) 6 3 6491892) 6 4 70517) 6 5 847604) 6 6 5146) 6 7 286880) 6 8 259565) 6 9 3379448) 6 10 9596021) 6 11 8740238) 6 12 282078293)) 543 [(0, .ref (r 0))] []
  refine g_aload_n hk dX12_init_543 rfl ?_
  refine g_callV (n := 0) hk (m112_X12_keepsRow l D zt g r) (SP.same _) (fun _ h => h) (gi_V (List.mem_cons_of_mem _ (List.mem_append_left _ (List.mem_of_getElem? (i := 47) rfl))) (List.mem_cons_of_mem _ (List.mem_append_left _ (List.mem_of_getElem? (i := 48) rfl))) (List.mem_cons_of_mem _ (List.mem_append_left _ (List.mem_of_getElem? (i := 49) rfl))) (List.mem_cons_of_mem _ (List.mem_append_left _ (List.mem_of_getElem? (i := 40) rfl))) (gi_sub (fun w h => (List.mem_cons_of_mem _ (List.mem_append_right _ (List.mem_append_right _ (List.mem_append_right _ (List.mem_append_right _ (List.mem_append_right _ (List.mem_append_right _ (List.mem_append_right _ (List.mem_append_right _ (List.mem_append_right _ (List.mem_append_right _ (List.mem_append_right _ (List.mem_append_right _ (List.mem_append_right _ (List.mem_append_right _ (List.mem_append_right _ (List.mem_append_right _ (List.mem_append_right _ (List.mem_append_right _ (List.mem_append_left _ h))))))))))))))))))))) zg_m112_X12_keepsRow)) rfl rfl rfl (by decide +kernel) ⟨Nat.le_of_ble_eq_true rfl, Nat.le_of_ble_eq_true rfl⟩ 0 rfl rfl rfl rfl (Nat.le_of_ble_eq_true rfl) ⟨Nat.le_of_ble_eq_true rfl, Nat.le_of_ble_eq_true rfl⟩ dX12_init_544 (fun v ty' w' hp hk' => ?_)
  obtain ⟨rfl, rfl⟩ := hp
  show GW κ 1 29 14217 (wM r g (upd iM0 14 (-1)) (up2 (up3 (up3 (up2 (up3 (up3 (up3 (up3 aM0 13 0 2) 16 0 8) 13 1 2) 16 1 8) 18 (cp (fun _ => 0) ((up3 (up3 (up3 (up3 aM0 13 0 2) 16 0 8) 13 1 2) 16 1 8) 18) 165)) 18 161 2) 18 164 8) 17 (cp ((up3 (up3 (up2 (up3 (up3 (up3 (up3 aM0 13 0 2) 16 0 8) 13 1 2) 16 1 8) 18 (cp (fun _ => 0) ((up3 (up3 (up3 (up3 aM0 13 0 2) 16 0 8) 13 1 2) 16 1 8) 18) 165)) 18 161 2) 18 164 8) 18) ((up3 (up3 (up2 (up3 (up3 (up3 (up3 aM0 13 0 2) 16 0 8) 13 1 2) 16 1 8) 18 (cp (fun _ => 0) ((up3 (up3 (up3 (up3 aM0 13 0 2) 16 0 8) 13 1 2) 16 1 8) 18) 165)) 18 161 2) 18 164 8) 17) 165)) (up3L (up3L (up3L (up3L (up3L (up3L (up3L (up3L (up3L (up3L (up3L (up3L (up3L lM0 6 0 275647447) 6 1 9451996) 6 2 40477) 6 3 6491892) 6 4 70517) 6 5 847604) 6 6 5146) 6 7 286880) 6 8 259565) 6 9 3379448) 6 10 9596021) 6 11 8740238) 6 12 282078293)) 547 [(0, .ref (r 0))] []
  exact g_vret hk hR ⟨r, g, h00, rfl, rfl, rfl⟩ dX12_init_547
def wo_m114_X12_lays : List Cond := [Cond.fieldLink RX12 13 "WarpDeskModel" "tape" "[B", Cond.fieldLink RX12 124 "WarpDeskModel" "taped" "I"]
def wz_m114_X12_lays : List Cond := .code yX12_lays cX12_lays 3 none :: (wo_m114_X12_lays ++ (wsX120 ++ ([] : List Cond)))
theorem zg_m114_X12_lays : ∀ w ∈ wz_m114_X12_lays, goodWord w = true := zg_cons rfl (zg_app (by decide +kernel) (zg_app zgU_wsX120 zg_nil))
theorem zi_m114_X12_lays : ∀ w ∈ wz_m114_X12_lays, w ∈ lw_tbl := zi_cons zw_1552 (zi_app (zi_cons zw_1380 (zi_cons zw_1381 zi_nil)) (zi_app inX12 zi_nil))
set_option maxHeartbeats 4000000 in
set_option maxRecDepth 100000 in
theorem m114_X12_lays (l : Launch) (D : va_G) (zt : Nat × Nat × Nat) (g : Nat → ClassId) (r : Nat → Nat) (a251 : Int32) : GM l D zt (tyM g) yX12_lays wz_m114_X12_lays ({ frames := 0, cells := 0, slots := 0, locals := 0 } : Room) [.ref (r 0), .int a251] (wM r g iM1 aM1 lM1) (fun v _ w' => ∃ (y254 : Int32), ∃ (y257 : Int32), ∃ (y260 : Int32), ∃ (y263 : Int32), v = none ∧ w' = wM r g (upd (upd (upd (upd iM1 1 1) 1 2) 1 3) 1 4) (up3 (up3 (up3 (up3 aM1 0 0 y254) 0 1 y257) 0 2 y260) 0 3 y263) lM1) 0 0 := by
  refine GM.of (cc := cX12_lays) (maxL := 3) (ret := none) (own := RX12) (lv := [(0, .ref (r 0)), (1, .int a251)]) (by decide) rfl rfl (Nat.le_of_ble_eq_true rfl) rfl (fun κ sz hk hR hN => ?_)
  have hin12 : ∀ w ∈ u_ws RX12 TX12 55, w ∈ wz_m114_X12_lays := fun w h => (List.mem_cons_of_mem _ (List.mem_append_right _ (List.mem_append_left _ h)))
  refine g_bipush (v := 24) hk dX12_lays_0 (by decide) ?_
  refine g_istore_n (lv' := [(2, .int 24), (0, .ref (r 0)), (1, .int a251)]) hk dX12_lays_2 (by decide) rfl ?_
  refine g_iload_n hk dX12_lays_3 rfl ?_
  refine g_if_lt (tgt := 36) (a := 24) hk dX12_lays_4 (by decide) rfl (fun z9 => absurd z9 (show ¬ ((24 : Int) < (0 : Int)) from by decide)) (fun _ => ?_)
  refine g_aload_n hk dX12_lays_7 rfl ?_
  refine gM_r0_1 hk hin12 (List.mem_cons_of_mem _ (List.mem_append_left _ (List.mem_of_getElem? (i := 0) rfl))) dX12_lays_8 ?_
  refine g_aload_n hk dX12_lays_11 rfl ?_
  refine gM_i1 (v := 0) hk hin12 (List.mem_cons_of_mem _ (List.mem_append_left _ (List.mem_of_getElem? (i := 1) rfl))) dX12_lays_12 rfl ?_
  refine g_iload_n hk dX12_lays_15 rfl ?_
  refine g_iload_n hk dX12_lays_16 rfl ?_
  refine g_ishr hk dX12_lays_17 ?_
  refine g_topi (fun y252 ey252 => ?_)
  refine g_i2b hk dX12_lays_18 rfl ?_
  refine g_topi (fun y253 ey253 => ?_)
  refine sM_0 (j := 0) hk (vp_in_iff.mpr ⟨by decide, by decide⟩) (by decide) rfl dX12_lays_19 ?_
  generalize vp_nar .byte y253 = y254
  refine g_aload_n hk dX12_lays_20 rfl ?_
  refine g_dup hk dX12_lays_21 rfl ?_
  refine gM_i1 (v := 0) hk hin12 (List.mem_cons_of_mem _ (List.mem_append_left _ (List.mem_of_getElem? (i := 1) rfl))) dX12_lays_22 rfl ?_
  refine g_iconst (v := 1) hk dX12_lays_25 (by decide) ?_
  refine g_iadd hk dX12_lays_26 ?_
  refine g_norm (v := 1) (by decide) ?_
  refine pM_i1 hk hin12 (List.mem_cons_of_mem _ (List.mem_append_left _ (List.mem_of_getElem? (i := 1) rfl))) dX12_lays_27 ?_
  refine g_iinc (v := 16) (lv' := [(2, .int 16), (0, .ref (r 0)), (1, .int a251)]) hk 0 dX12_lays_30 rfl (by decide) (by decide) rfl ?_
  refine g_goto (tgt := 3) hk dX12_lays_33 (by decide) ?_
  refine g_iload_n hk dX12_lays_3 rfl ?_
  refine g_if_lt (tgt := 36) (a := 16) hk dX12_lays_4 (by decide) rfl (fun z9 => absurd z9 (show ¬ ((16 : Int) < (0 : Int)) from by decide)) (fun _ => ?_)
  refine g_aload_n hk dX12_lays_7 rfl ?_
  refine gM_r0_1 hk hin12 (List.mem_cons_of_mem _ (List.mem_append_left _ (List.mem_of_getElem? (i := 0) rfl))) dX12_lays_8 ?_
  refine g_aload_n hk dX12_lays_11 rfl ?_
  refine gM_i1 (v := 1) hk hin12 (List.mem_cons_of_mem _ (List.mem_append_left _ (List.mem_of_getElem? (i := 1) rfl))) dX12_lays_12 rfl ?_
  refine g_iload_n hk dX12_lays_15 rfl ?_
  refine g_iload_n hk dX12_lays_16 rfl ?_
  refine g_ishr hk dX12_lays_17 ?_
  refine g_topi (fun y255 ey255 => ?_)
  refine g_i2b hk dX12_lays_18 rfl ?_
  refine g_topi (fun y256 ey256 => ?_)
  refine sM_0 (j := 1) hk (vp_in_iff.mpr ⟨by decide, by decide⟩) (by decide) rfl dX12_lays_19 ?_
  generalize vp_nar .byte y256 = y257
  refine g_aload_n hk dX12_lays_20 rfl ?_
  refine g_dup hk dX12_lays_21 rfl ?_
  refine gM_i1 (v := 1) hk hin12 (List.mem_cons_of_mem _ (List.mem_append_left _ (List.mem_of_getElem? (i := 1) rfl))) dX12_lays_22 rfl ?_
  refine g_iconst (v := 1) hk dX12_lays_25 (by decide) ?_
  refine g_iadd hk dX12_lays_26 ?_
  refine g_norm (v := 2) (by decide) ?_
  refine pM_i1 hk hin12 (List.mem_cons_of_mem _ (List.mem_append_left _ (List.mem_of_getElem? (i := 1) rfl))) dX12_lays_27 ?_
  refine g_iinc (v := 8) (lv' := [(2, .int 8), (0, .ref (r 0)), (1, .int a251)]) hk 0 dX12_lays_30 rfl (by decide) (by decide) rfl ?_
  refine g_goto (tgt := 3) hk dX12_lays_33 (by decide) ?_
  refine g_iload_n hk dX12_lays_3 rfl ?_
  refine g_if_lt (tgt := 36) (a := 8) hk dX12_lays_4 (by decide) rfl (fun z9 => absurd z9 (show ¬ ((8 : Int) < (0 : Int)) from by decide)) (fun _ => ?_)
  refine g_aload_n hk dX12_lays_7 rfl ?_
  refine gM_r0_1 hk hin12 (List.mem_cons_of_mem _ (List.mem_append_left _ (List.mem_of_getElem? (i := 0) rfl))) dX12_lays_8 ?_
  refine g_aload_n hk dX12_lays_11 rfl ?_
  refine gM_i1 (v := 2) hk hin12 (List.mem_cons_of_mem _ (List.mem_append_left _ (List.mem_of_getElem? (i := 1) rfl))) dX12_lays_12 rfl ?_
  refine g_iload_n hk dX12_lays_15 rfl ?_
  refine g_iload_n hk dX12_lays_16 rfl ?_
  refine g_ishr hk dX12_lays_17 ?_
  refine g_topi (fun y258 ey258 => ?_)
  refine g_i2b hk dX12_lays_18 rfl ?_
  refine g_topi (fun y259 ey259 => ?_)
  refine sM_0 (j := 2) hk (vp_in_iff.mpr ⟨by decide, by decide⟩) (by decide) rfl dX12_lays_19 ?_
  generalize vp_nar .byte y259 = y260
  refine g_aload_n hk dX12_lays_20 rfl ?_
  refine g_dup hk dX12_lays_21 rfl ?_
  refine gM_i1 (v := 2) hk hin12 (List.mem_cons_of_mem _ (List.mem_append_left _ (List.mem_of_getElem? (i := 1) rfl))) dX12_lays_22 rfl ?_
  refine g_iconst (v := 1) hk dX12_lays_25 (by decide) ?_
  refine g_iadd hk dX12_lays_26 ?_
  refine g_norm (v := 3) (by decide) ?_
  refine pM_i1 hk hin12 (List.mem_cons_of_mem _ (List.mem_append_left _ (List.mem_of_getElem? (i := 1) rfl))) dX12_lays_27 ?_
  refine g_iinc (v := 0) (lv' := [(2, .int 0), (0, .ref (r 0)), (1, .int a251)]) hk 0 dX12_lays_30 rfl (by decide) (by decide) rfl ?_
  refine g_goto (tgt := 3) hk dX12_lays_33 (by decide) ?_
  refine g_iload_n hk dX12_lays_3 rfl ?_
  refine g_if_lt (tgt := 36) (a := 0) hk dX12_lays_4 (by decide) rfl (fun z9 => absurd z9 (show ¬ ((0 : Int) < (0 : Int)) from by decide)) (fun _ => ?_)
  refine g_aload_n hk dX12_lays_7 rfl ?_
  refine gM_r0_1 hk hin12 (List.mem_cons_of_mem _ (List.mem_append_left _ (List.mem_of_getElem? (i := 0) rfl))) dX12_lays_8 ?_
  refine g_aload_n hk dX12_lays_11 rfl ?_
  refine gM_i1 (v := 3) hk hin12 (List.mem_cons_of_mem _ (List.mem_append_left _ (List.mem_of_getElem? (i := 1) rfl))) dX12_lays_12 rfl ?_
  refine g_iload_n hk dX12_lays_15 rfl ?_
  refine g_iload_n hk dX12_lays_16 rfl ?_
  refine g_ishr hk dX12_lays_17 ?_
  refine g_topi (fun y261 ey261 => ?_)
  refine g_i2b hk dX12_lays_18 rfl ?_
  refine g_topi (fun y262 ey262 => ?_)
  refine sM_0 (j := 3) hk (vp_in_iff.mpr ⟨by decide, by decide⟩) (by decide) rfl dX12_lays_19 ?_
  generalize vp_nar .byte y262 = y263
  refine g_aload_n hk dX12_lays_20 rfl ?_
  refine g_dup hk dX12_lays_21 rfl ?_
  refine gM_i1 (v := 3) hk hin12 (List.mem_cons_of_mem _ (List.mem_append_left _ (List.mem_of_getElem? (i := 1) rfl))) dX12_lays_22 rfl ?_
  refine g_iconst (v := 1) hk dX12_lays_25 (by decide) ?_
  refine g_iadd hk dX12_lays_26 ?_
  refine g_norm (v := 4) (by decide) ?_
  refine pM_i1 hk hin12 (List.mem_cons_of_mem _ (List.mem_append_left _ (List.mem_of_getElem? (i := 1) rfl))) dX12_lays_27 ?_
  refine g_iinc (v := (-8)) (lv' := [(2, .int (-8)), (0, .ref (r 0)), (1, .int a251)]) hk 0 dX12_lays_30 rfl (by decide) (by decide) rfl ?_
  refine g_goto (tgt := 3) hk dX12_lays_33 (by decide) ?_
  refine g_iload_n hk dX12_lays_3 rfl ?_
  refine g_if_lt (tgt := 36) (a := (-8)) hk dX12_lays_4 (by decide) rfl (fun _ => ?_) (fun z9 => absurd (show ((-8) : Int) < (0 : Int) from by decide) z9)
  exact g_vret hk hR ⟨y254, y257, y260, y263, rfl, rfl⟩ dX12_lays_36
def wo_m115_X12_lays : List Cond := [Cond.fieldLink RX12 13 "WarpDeskModel" "tape" "[B", Cond.fieldLink RX12 124 "WarpDeskModel" "taped" "I"]
def wz_m115_X12_lays : List Cond := .code yX12_lays cX12_lays 3 none :: (wo_m115_X12_lays ++ (wsX120 ++ ([] : List Cond)))
theorem zg_m115_X12_lays : ∀ w ∈ wz_m115_X12_lays, goodWord w = true := zg_cons rfl (zg_app (by decide +kernel) (zg_app zgU_wsX120 zg_nil))
theorem zi_m115_X12_lays : ∀ w ∈ wz_m115_X12_lays, w ∈ lw_tbl := zi_cons zw_1552 (zi_app (zi_cons zw_1380 (zi_cons zw_1381 zi_nil)) (zi_app inX12 zi_nil))
set_option maxHeartbeats 4000000 in
set_option maxRecDepth 100000 in
theorem m115_X12_lays (l : Launch) (D : va_G) (zt : Nat × Nat × Nat) (g : Nat → ClassId) (r : Nat → Nat) (y264 : Int32) (y265 : Int32) (y266 : Int32) (y267 : Int32) (a268 : Int32) : GM l D zt (tyM g) yX12_lays wz_m115_X12_lays ({ frames := 0, cells := 0, slots := 0, locals := 0 } : Room) [.ref (r 0), .int a268] (wM r g (upd (upd (upd (upd iM1 1 1) 1 2) 1 3) 1 4) (up3 (up3 (up3 (up3 aM1 0 0 y264) 0 1 y265) 0 2 y266) 0 3 y267) lM1) (fun v _ w' => ∃ (y271 : Int32), ∃ (y274 : Int32), ∃ (y277 : Int32), ∃ (y280 : Int32), v = none ∧ w' = wM r g (upd (upd (upd (upd (upd (upd (upd (upd iM1 1 1) 1 2) 1 3) 1 4) 1 5) 1 6) 1 7) 1 8) (up3 (up3 (up3 (up3 (up3 (up3 (up3 (up3 aM1 0 0 y264) 0 1 y265) 0 2 y266) 0 3 y267) 0 4 y271) 0 5 y274) 0 6 y277) 0 7 y280) lM1) 0 0 := by
  refine GM.of (cc := cX12_lays) (maxL := 3) (ret := none) (own := RX12) (lv := [(0, .ref (r 0)), (1, .int a268)]) (by decide) rfl rfl (Nat.le_of_ble_eq_true rfl) rfl (fun κ sz hk hR hN => ?_)
  have hin12 : ∀ w ∈ u_ws RX12 TX12 55, w ∈ wz_m115_X12_lays := fun w h => (List.mem_cons_of_mem _ (List.mem_append_right _ (List.mem_append_left _ h)))
  refine g_bipush (v := 24) hk dX12_lays_0 (by decide) ?_
  refine g_istore_n (lv' := [(2, .int 24), (0, .ref (r 0)), (1, .int a268)]) hk dX12_lays_2 (by decide) rfl ?_
  refine g_iload_n hk dX12_lays_3 rfl ?_
  refine g_if_lt (tgt := 36) (a := 24) hk dX12_lays_4 (by decide) rfl (fun z9 => absurd z9 (show ¬ ((24 : Int) < (0 : Int)) from by decide)) (fun _ => ?_)
  refine g_aload_n hk dX12_lays_7 rfl ?_
  refine gM_r0_1 hk hin12 (List.mem_cons_of_mem _ (List.mem_append_left _ (List.mem_of_getElem? (i := 0) rfl))) dX12_lays_8 ?_
  refine g_aload_n hk dX12_lays_11 rfl ?_
  refine gM_i1 (v := 4) hk hin12 (List.mem_cons_of_mem _ (List.mem_append_left _ (List.mem_of_getElem? (i := 1) rfl))) dX12_lays_12 rfl ?_
  refine g_iload_n hk dX12_lays_15 rfl ?_
  refine g_iload_n hk dX12_lays_16 rfl ?_
  refine g_ishr hk dX12_lays_17 ?_
  refine g_topi (fun y269 ey269 => ?_)
  refine g_i2b hk dX12_lays_18 rfl ?_
  refine g_topi (fun y270 ey270 => ?_)
  refine sM_0 (j := 4) hk (vp_in_iff.mpr ⟨by decide, by decide⟩) (by decide) rfl dX12_lays_19 ?_
  generalize vp_nar .byte y270 = y271
  refine g_aload_n hk dX12_lays_20 rfl ?_
  refine g_dup hk dX12_lays_21 rfl ?_
  refine gM_i1 (v := 4) hk hin12 (List.mem_cons_of_mem _ (List.mem_append_left _ (List.mem_of_getElem? (i := 1) rfl))) dX12_lays_22 rfl ?_
  refine g_iconst (v := 1) hk dX12_lays_25 (by decide) ?_
  refine g_iadd hk dX12_lays_26 ?_
  refine g_norm (v := 5) (by decide) ?_
  refine pM_i1 hk hin12 (List.mem_cons_of_mem _ (List.mem_append_left _ (List.mem_of_getElem? (i := 1) rfl))) dX12_lays_27 ?_
  refine g_iinc (v := 16) (lv' := [(2, .int 16), (0, .ref (r 0)), (1, .int a268)]) hk 0 dX12_lays_30 rfl (by decide) (by decide) rfl ?_
  refine g_goto (tgt := 3) hk dX12_lays_33 (by decide) ?_
  refine g_iload_n hk dX12_lays_3 rfl ?_
  refine g_if_lt (tgt := 36) (a := 16) hk dX12_lays_4 (by decide) rfl (fun z9 => absurd z9 (show ¬ ((16 : Int) < (0 : Int)) from by decide)) (fun _ => ?_)
  refine g_aload_n hk dX12_lays_7 rfl ?_
  refine gM_r0_1 hk hin12 (List.mem_cons_of_mem _ (List.mem_append_left _ (List.mem_of_getElem? (i := 0) rfl))) dX12_lays_8 ?_
  refine g_aload_n hk dX12_lays_11 rfl ?_
  refine gM_i1 (v := 5) hk hin12 (List.mem_cons_of_mem _ (List.mem_append_left _ (List.mem_of_getElem? (i := 1) rfl))) dX12_lays_12 rfl ?_
  refine g_iload_n hk dX12_lays_15 rfl ?_
  refine g_iload_n hk dX12_lays_16 rfl ?_
  refine g_ishr hk dX12_lays_17 ?_
  refine g_topi (fun y272 ey272 => ?_)
  refine g_i2b hk dX12_lays_18 rfl ?_
  refine g_topi (fun y273 ey273 => ?_)
  refine sM_0 (j := 5) hk (vp_in_iff.mpr ⟨by decide, by decide⟩) (by decide) rfl dX12_lays_19 ?_
  generalize vp_nar .byte y273 = y274
  refine g_aload_n hk dX12_lays_20 rfl ?_
  refine g_dup hk dX12_lays_21 rfl ?_
  refine gM_i1 (v := 5) hk hin12 (List.mem_cons_of_mem _ (List.mem_append_left _ (List.mem_of_getElem? (i := 1) rfl))) dX12_lays_22 rfl ?_
  refine g_iconst (v := 1) hk dX12_lays_25 (by decide) ?_
  refine g_iadd hk dX12_lays_26 ?_
  refine g_norm (v := 6) (by decide) ?_
  refine pM_i1 hk hin12 (List.mem_cons_of_mem _ (List.mem_append_left _ (List.mem_of_getElem? (i := 1) rfl))) dX12_lays_27 ?_
  refine g_iinc (v := 8) (lv' := [(2, .int 8), (0, .ref (r 0)), (1, .int a268)]) hk 0 dX12_lays_30 rfl (by decide) (by decide) rfl ?_
  refine g_goto (tgt := 3) hk dX12_lays_33 (by decide) ?_
  refine g_iload_n hk dX12_lays_3 rfl ?_
  refine g_if_lt (tgt := 36) (a := 8) hk dX12_lays_4 (by decide) rfl (fun z9 => absurd z9 (show ¬ ((8 : Int) < (0 : Int)) from by decide)) (fun _ => ?_)
  refine g_aload_n hk dX12_lays_7 rfl ?_
  refine gM_r0_1 hk hin12 (List.mem_cons_of_mem _ (List.mem_append_left _ (List.mem_of_getElem? (i := 0) rfl))) dX12_lays_8 ?_
  refine g_aload_n hk dX12_lays_11 rfl ?_
  refine gM_i1 (v := 6) hk hin12 (List.mem_cons_of_mem _ (List.mem_append_left _ (List.mem_of_getElem? (i := 1) rfl))) dX12_lays_12 rfl ?_
  refine g_iload_n hk dX12_lays_15 rfl ?_
  refine g_iload_n hk dX12_lays_16 rfl ?_
  refine g_ishr hk dX12_lays_17 ?_
  refine g_topi (fun y275 ey275 => ?_)
  refine g_i2b hk dX12_lays_18 rfl ?_
  refine g_topi (fun y276 ey276 => ?_)
  refine sM_0 (j := 6) hk (vp_in_iff.mpr ⟨by decide, by decide⟩) (by decide) rfl dX12_lays_19 ?_
  generalize vp_nar .byte y276 = y277
  refine g_aload_n hk dX12_lays_20 rfl ?_
  refine g_dup hk dX12_lays_21 rfl ?_
  refine gM_i1 (v := 6) hk hin12 (List.mem_cons_of_mem _ (List.mem_append_left _ (List.mem_of_getElem? (i := 1) rfl))) dX12_lays_22 rfl ?_
  refine g_iconst (v := 1) hk dX12_lays_25 (by decide) ?_
  refine g_iadd hk dX12_lays_26 ?_
  refine g_norm (v := 7) (by decide) ?_
  refine pM_i1 hk hin12 (List.mem_cons_of_mem _ (List.mem_append_left _ (List.mem_of_getElem? (i := 1) rfl))) dX12_lays_27 ?_
  refine g_iinc (v := 0) (lv' := [(2, .int 0), (0, .ref (r 0)), (1, .int a268)]) hk 0 dX12_lays_30 rfl (by decide) (by decide) rfl ?_
  refine g_goto (tgt := 3) hk dX12_lays_33 (by decide) ?_
  refine g_iload_n hk dX12_lays_3 rfl ?_
  refine g_if_lt (tgt := 36) (a := 0) hk dX12_lays_4 (by decide) rfl (fun z9 => absurd z9 (show ¬ ((0 : Int) < (0 : Int)) from by decide)) (fun _ => ?_)
  refine g_aload_n hk dX12_lays_7 rfl ?_
  refine gM_r0_1 hk hin12 (List.mem_cons_of_mem _ (List.mem_append_left _ (List.mem_of_getElem? (i := 0) rfl))) dX12_lays_8 ?_
  refine g_aload_n hk dX12_lays_11 rfl ?_
  refine gM_i1 (v := 7) hk hin12 (List.mem_cons_of_mem _ (List.mem_append_left _ (List.mem_of_getElem? (i := 1) rfl))) dX12_lays_12 rfl ?_
  refine g_iload_n hk dX12_lays_15 rfl ?_
  refine g_iload_n hk dX12_lays_16 rfl ?_
  refine g_ishr hk dX12_lays_17 ?_
  refine g_topi (fun y278 ey278 => ?_)
  refine g_i2b hk dX12_lays_18 rfl ?_
  refine g_topi (fun y279 ey279 => ?_)
  refine sM_0 (j := 7) hk (vp_in_iff.mpr ⟨by decide, by decide⟩) (by decide) rfl dX12_lays_19 ?_
  generalize vp_nar .byte y279 = y280
  refine g_aload_n hk dX12_lays_20 rfl ?_
  refine g_dup hk dX12_lays_21 rfl ?_
  refine gM_i1 (v := 7) hk hin12 (List.mem_cons_of_mem _ (List.mem_append_left _ (List.mem_of_getElem? (i := 1) rfl))) dX12_lays_22 rfl ?_
  refine g_iconst (v := 1) hk dX12_lays_25 (by decide) ?_
  refine g_iadd hk dX12_lays_26 ?_
  refine g_norm (v := 8) (by decide) ?_
  refine pM_i1 hk hin12 (List.mem_cons_of_mem _ (List.mem_append_left _ (List.mem_of_getElem? (i := 1) rfl))) dX12_lays_27 ?_
  refine g_iinc (v := (-8)) (lv' := [(2, .int (-8)), (0, .ref (r 0)), (1, .int a268)]) hk 0 dX12_lays_30 rfl (by decide) (by decide) rfl ?_
  refine g_goto (tgt := 3) hk dX12_lays_33 (by decide) ?_
  refine g_iload_n hk dX12_lays_3 rfl ?_
  refine g_if_lt (tgt := 36) (a := (-8)) hk dX12_lays_4 (by decide) rfl (fun _ => ?_) (fun z9 => absurd (show ((-8) : Int) < (0 : Int) from by decide) z9)
  exact g_vret hk hR ⟨y271, y274, y277, y280, rfl, rfl⟩ dX12_lays_36
def wo_m116_X12_lays : List Cond := [Cond.fieldLink RX12 13 "WarpDeskModel" "tape" "[B", Cond.fieldLink RX12 124 "WarpDeskModel" "taped" "I"]
def wz_m116_X12_lays : List Cond := .code yX12_lays cX12_lays 3 none :: (wo_m116_X12_lays ++ (wsX120 ++ ([] : List Cond)))
theorem zg_m116_X12_lays : ∀ w ∈ wz_m116_X12_lays, goodWord w = true := zg_cons rfl (zg_app (by decide +kernel) (zg_app zgU_wsX120 zg_nil))
theorem zi_m116_X12_lays : ∀ w ∈ wz_m116_X12_lays, w ∈ lw_tbl := zi_cons zw_1552 (zi_app (zi_cons zw_1380 (zi_cons zw_1381 zi_nil)) (zi_app inX12 zi_nil))
set_option maxHeartbeats 4000000 in
set_option maxRecDepth 100000 in
theorem m116_X12_lays (l : Launch) (D : va_G) (zt : Nat × Nat × Nat) (g : Nat → ClassId) (r : Nat → Nat) (y264 : Int32) (y265 : Int32) (y266 : Int32) (y267 : Int32) (y281 : Int32) (y282 : Int32) (y283 : Int32) (y284 : Int32) (a285 : Int32) : GM l D zt (tyM g) yX12_lays wz_m116_X12_lays ({ frames := 0, cells := 0, slots := 0, locals := 0 } : Room) [.ref (r 0), .int a285] (wM r g (upd (upd (upd (upd (upd (upd (upd (upd iM1 1 1) 1 2) 1 3) 1 4) 1 5) 1 6) 1 7) 1 8) (up3 (up3 (up3 (up3 (up3 (up3 (up3 (up3 aM1 0 0 y264) 0 1 y265) 0 2 y266) 0 3 y267) 0 4 y281) 0 5 y282) 0 6 y283) 0 7 y284) lM1) (fun v _ w' => ∃ (y288 : Int32), ∃ (y291 : Int32), ∃ (y294 : Int32), ∃ (y297 : Int32), v = none ∧ w' = wM r g (upd (upd (upd (upd (upd (upd (upd (upd (upd (upd (upd (upd iM1 1 1) 1 2) 1 3) 1 4) 1 5) 1 6) 1 7) 1 8) 1 9) 1 10) 1 11) 1 12) (up3 (up3 (up3 (up3 (up3 (up3 (up3 (up3 (up3 (up3 (up3 (up3 aM1 0 0 y264) 0 1 y265) 0 2 y266) 0 3 y267) 0 4 y281) 0 5 y282) 0 6 y283) 0 7 y284) 0 8 y288) 0 9 y291) 0 10 y294) 0 11 y297) lM1) 0 0 := by
  refine GM.of (cc := cX12_lays) (maxL := 3) (ret := none) (own := RX12) (lv := [(0, .ref (r 0)), (1, .int a285)]) (by decide) rfl rfl (Nat.le_of_ble_eq_true rfl) rfl (fun κ sz hk hR hN => ?_)
  have hin12 : ∀ w ∈ u_ws RX12 TX12 55, w ∈ wz_m116_X12_lays := fun w h => (List.mem_cons_of_mem _ (List.mem_append_right _ (List.mem_append_left _ h)))
  refine g_bipush (v := 24) hk dX12_lays_0 (by decide) ?_
  refine g_istore_n (lv' := [(2, .int 24), (0, .ref (r 0)), (1, .int a285)]) hk dX12_lays_2 (by decide) rfl ?_
  refine g_iload_n hk dX12_lays_3 rfl ?_
  refine g_if_lt (tgt := 36) (a := 24) hk dX12_lays_4 (by decide) rfl (fun z9 => absurd z9 (show ¬ ((24 : Int) < (0 : Int)) from by decide)) (fun _ => ?_)
  refine g_aload_n hk dX12_lays_7 rfl ?_
  refine gM_r0_1 hk hin12 (List.mem_cons_of_mem _ (List.mem_append_left _ (List.mem_of_getElem? (i := 0) rfl))) dX12_lays_8 ?_
  refine g_aload_n hk dX12_lays_11 rfl ?_
  refine gM_i1 (v := 8) hk hin12 (List.mem_cons_of_mem _ (List.mem_append_left _ (List.mem_of_getElem? (i := 1) rfl))) dX12_lays_12 rfl ?_
  refine g_iload_n hk dX12_lays_15 rfl ?_
  refine g_iload_n hk dX12_lays_16 rfl ?_
  refine g_ishr hk dX12_lays_17 ?_
  refine g_topi (fun y286 ey286 => ?_)
  refine g_i2b hk dX12_lays_18 rfl ?_
  refine g_topi (fun y287 ey287 => ?_)
  refine sM_0 (j := 8) hk (vp_in_iff.mpr ⟨by decide, by decide⟩) (by decide) rfl dX12_lays_19 ?_
  generalize vp_nar .byte y287 = y288
  refine g_aload_n hk dX12_lays_20 rfl ?_
  refine g_dup hk dX12_lays_21 rfl ?_
  refine gM_i1 (v := 8) hk hin12 (List.mem_cons_of_mem _ (List.mem_append_left _ (List.mem_of_getElem? (i := 1) rfl))) dX12_lays_22 rfl ?_
  refine g_iconst (v := 1) hk dX12_lays_25 (by decide) ?_
  refine g_iadd hk dX12_lays_26 ?_
  refine g_norm (v := 9) (by decide) ?_
  refine pM_i1 hk hin12 (List.mem_cons_of_mem _ (List.mem_append_left _ (List.mem_of_getElem? (i := 1) rfl))) dX12_lays_27 ?_
  refine g_iinc (v := 16) (lv' := [(2, .int 16), (0, .ref (r 0)), (1, .int a285)]) hk 0 dX12_lays_30 rfl (by decide) (by decide) rfl ?_
  refine g_goto (tgt := 3) hk dX12_lays_33 (by decide) ?_
  refine g_iload_n hk dX12_lays_3 rfl ?_
  refine g_if_lt (tgt := 36) (a := 16) hk dX12_lays_4 (by decide) rfl (fun z9 => absurd z9 (show ¬ ((16 : Int) < (0 : Int)) from by decide)) (fun _ => ?_)
  refine g_aload_n hk dX12_lays_7 rfl ?_
  refine gM_r0_1 hk hin12 (List.mem_cons_of_mem _ (List.mem_append_left _ (List.mem_of_getElem? (i := 0) rfl))) dX12_lays_8 ?_
  refine g_aload_n hk dX12_lays_11 rfl ?_
  refine gM_i1 (v := 9) hk hin12 (List.mem_cons_of_mem _ (List.mem_append_left _ (List.mem_of_getElem? (i := 1) rfl))) dX12_lays_12 rfl ?_
  refine g_iload_n hk dX12_lays_15 rfl ?_
  refine g_iload_n hk dX12_lays_16 rfl ?_
  refine g_ishr hk dX12_lays_17 ?_
  refine g_topi (fun y289 ey289 => ?_)
  refine g_i2b hk dX12_lays_18 rfl ?_
  refine g_topi (fun y290 ey290 => ?_)
  refine sM_0 (j := 9) hk (vp_in_iff.mpr ⟨by decide, by decide⟩) (by decide) rfl dX12_lays_19 ?_
  generalize vp_nar .byte y290 = y291
  refine g_aload_n hk dX12_lays_20 rfl ?_
  refine g_dup hk dX12_lays_21 rfl ?_
  refine gM_i1 (v := 9) hk hin12 (List.mem_cons_of_mem _ (List.mem_append_left _ (List.mem_of_getElem? (i := 1) rfl))) dX12_lays_22 rfl ?_
  refine g_iconst (v := 1) hk dX12_lays_25 (by decide) ?_
  refine g_iadd hk dX12_lays_26 ?_
  refine g_norm (v := 10) (by decide) ?_
  refine pM_i1 hk hin12 (List.mem_cons_of_mem _ (List.mem_append_left _ (List.mem_of_getElem? (i := 1) rfl))) dX12_lays_27 ?_
  refine g_iinc (v := 8) (lv' := [(2, .int 8), (0, .ref (r 0)), (1, .int a285)]) hk 0 dX12_lays_30 rfl (by decide) (by decide) rfl ?_
  refine g_goto (tgt := 3) hk dX12_lays_33 (by decide) ?_
  refine g_iload_n hk dX12_lays_3 rfl ?_
  refine g_if_lt (tgt := 36) (a := 8) hk dX12_lays_4 (by decide) rfl (fun z9 => absurd z9 (show ¬ ((8 : Int) < (0 : Int)) from by decide)) (fun _ => ?_)
  refine g_aload_n hk dX12_lays_7 rfl ?_
  refine gM_r0_1 hk hin12 (List.mem_cons_of_mem _ (List.mem_append_left _ (List.mem_of_getElem? (i := 0) rfl))) dX12_lays_8 ?_
  refine g_aload_n hk dX12_lays_11 rfl ?_
  refine gM_i1 (v := 10) hk hin12 (List.mem_cons_of_mem _ (List.mem_append_left _ (List.mem_of_getElem? (i := 1) rfl))) dX12_lays_12 rfl ?_
  refine g_iload_n hk dX12_lays_15 rfl ?_
  refine g_iload_n hk dX12_lays_16 rfl ?_
  refine g_ishr hk dX12_lays_17 ?_
  refine g_topi (fun y292 ey292 => ?_)
  refine g_i2b hk dX12_lays_18 rfl ?_
  refine g_topi (fun y293 ey293 => ?_)
  refine sM_0 (j := 10) hk (vp_in_iff.mpr ⟨by decide, by decide⟩) (by decide) rfl dX12_lays_19 ?_
  generalize vp_nar .byte y293 = y294
  refine g_aload_n hk dX12_lays_20 rfl ?_
  refine g_dup hk dX12_lays_21 rfl ?_
  refine gM_i1 (v := 10) hk hin12 (List.mem_cons_of_mem _ (List.mem_append_left _ (List.mem_of_getElem? (i := 1) rfl))) dX12_lays_22 rfl ?_
  refine g_iconst (v := 1) hk dX12_lays_25 (by decide) ?_
  refine g_iadd hk dX12_lays_26 ?_
  refine g_norm (v := 11) (by decide) ?_
  refine pM_i1 hk hin12 (List.mem_cons_of_mem _ (List.mem_append_left _ (List.mem_of_getElem? (i := 1) rfl))) dX12_lays_27 ?_
  refine g_iinc (v := 0) (lv' := [(2, .int 0), (0, .ref (r 0)), (1, .int a285)]) hk 0 dX12_lays_30 rfl (by decide) (by decide) rfl ?_
  refine g_goto (tgt := 3) hk dX12_lays_33 (by decide) ?_
  refine g_iload_n hk dX12_lays_3 rfl ?_
  refine g_if_lt (tgt := 36) (a := 0) hk dX12_lays_4 (by decide) rfl (fun z9 => absurd z9 (show ¬ ((0 : Int) < (0 : Int)) from by decide)) (fun _ => ?_)
  refine g_aload_n hk dX12_lays_7 rfl ?_
  refine gM_r0_1 hk hin12 (List.mem_cons_of_mem _ (List.mem_append_left _ (List.mem_of_getElem? (i := 0) rfl))) dX12_lays_8 ?_
  refine g_aload_n hk dX12_lays_11 rfl ?_
  refine gM_i1 (v := 11) hk hin12 (List.mem_cons_of_mem _ (List.mem_append_left _ (List.mem_of_getElem? (i := 1) rfl))) dX12_lays_12 rfl ?_
  refine g_iload_n hk dX12_lays_15 rfl ?_
  refine g_iload_n hk dX12_lays_16 rfl ?_
  refine g_ishr hk dX12_lays_17 ?_
  refine g_topi (fun y295 ey295 => ?_)
  refine g_i2b hk dX12_lays_18 rfl ?_
  refine g_topi (fun y296 ey296 => ?_)
  refine sM_0 (j := 11) hk (vp_in_iff.mpr ⟨by decide, by decide⟩) (by decide) rfl dX12_lays_19 ?_
  generalize vp_nar .byte y296 = y297
  refine g_aload_n hk dX12_lays_20 rfl ?_
  refine g_dup hk dX12_lays_21 rfl ?_
  refine gM_i1 (v := 11) hk hin12 (List.mem_cons_of_mem _ (List.mem_append_left _ (List.mem_of_getElem? (i := 1) rfl))) dX12_lays_22 rfl ?_
  refine g_iconst (v := 1) hk dX12_lays_25 (by decide) ?_
  refine g_iadd hk dX12_lays_26 ?_
  refine g_norm (v := 12) (by decide) ?_
  refine pM_i1 hk hin12 (List.mem_cons_of_mem _ (List.mem_append_left _ (List.mem_of_getElem? (i := 1) rfl))) dX12_lays_27 ?_
  refine g_iinc (v := (-8)) (lv' := [(2, .int (-8)), (0, .ref (r 0)), (1, .int a285)]) hk 0 dX12_lays_30 rfl (by decide) (by decide) rfl ?_
  refine g_goto (tgt := 3) hk dX12_lays_33 (by decide) ?_
  refine g_iload_n hk dX12_lays_3 rfl ?_
  refine g_if_lt (tgt := 36) (a := (-8)) hk dX12_lays_4 (by decide) rfl (fun _ => ?_) (fun z9 => absurd (show ((-8) : Int) < (0 : Int) from by decide) z9)
  exact g_vret hk hR ⟨y288, y291, y294, y297, rfl, rfl⟩ dX12_lays_36
def wo_m117_X12_lays : List Cond := [Cond.fieldLink RX12 13 "WarpDeskModel" "tape" "[B", Cond.fieldLink RX12 124 "WarpDeskModel" "taped" "I"]
def wz_m117_X12_lays : List Cond := .code yX12_lays cX12_lays 3 none :: (wo_m117_X12_lays ++ (wsX120 ++ ([] : List Cond)))
theorem zg_m117_X12_lays : ∀ w ∈ wz_m117_X12_lays, goodWord w = true := zg_cons rfl (zg_app (by decide +kernel) (zg_app zgU_wsX120 zg_nil))
theorem zi_m117_X12_lays : ∀ w ∈ wz_m117_X12_lays, w ∈ lw_tbl := zi_cons zw_1552 (zi_app (zi_cons zw_1380 (zi_cons zw_1381 zi_nil)) (zi_app inX12 zi_nil))
set_option maxHeartbeats 4000000 in
set_option maxRecDepth 100000 in
theorem m117_X12_lays (l : Launch) (D : va_G) (zt : Nat × Nat × Nat) (g : Nat → ClassId) (r : Nat → Nat) (y264 : Int32) (y265 : Int32) (y266 : Int32) (y267 : Int32) (y281 : Int32) (y282 : Int32) (y283 : Int32) (y284 : Int32) (y298 : Int32) (y299 : Int32) (y300 : Int32) (y301 : Int32) (a302 : Int32) : GM l D zt (tyM g) yX12_lays wz_m117_X12_lays ({ frames := 0, cells := 0, slots := 0, locals := 0 } : Room) [.ref (r 0), .int a302] (wM r g (upd (upd (upd (upd (upd (upd (upd (upd (upd (upd (upd (upd iM1 1 1) 1 2) 1 3) 1 4) 1 5) 1 6) 1 7) 1 8) 1 9) 1 10) 1 11) 1 12) (up3 (up3 (up3 (up3 (up3 (up3 (up3 (up3 (up3 (up3 (up3 (up3 aM1 0 0 y264) 0 1 y265) 0 2 y266) 0 3 y267) 0 4 y281) 0 5 y282) 0 6 y283) 0 7 y284) 0 8 y298) 0 9 y299) 0 10 y300) 0 11 y301) lM1) (fun v _ w' => ∃ (y305 : Int32), ∃ (y308 : Int32), ∃ (y311 : Int32), ∃ (y314 : Int32), v = none ∧ w' = wM r g (upd (upd (upd (upd (upd (upd (upd (upd (upd (upd (upd (upd (upd (upd (upd (upd iM1 1 1) 1 2) 1 3) 1 4) 1 5) 1 6) 1 7) 1 8) 1 9) 1 10) 1 11) 1 12) 1 13) 1 14) 1 15) 1 16) (up3 (up3 (up3 (up3 (up3 (up3 (up3 (up3 (up3 (up3 (up3 (up3 (up3 (up3 (up3 (up3 aM1 0 0 y264) 0 1 y265) 0 2 y266) 0 3 y267) 0 4 y281) 0 5 y282) 0 6 y283) 0 7 y284) 0 8 y298) 0 9 y299) 0 10 y300) 0 11 y301) 0 12 y305) 0 13 y308) 0 14 y311) 0 15 y314) lM1) 0 0 := by
  refine GM.of (cc := cX12_lays) (maxL := 3) (ret := none) (own := RX12) (lv := [(0, .ref (r 0)), (1, .int a302)]) (by decide) rfl rfl (Nat.le_of_ble_eq_true rfl) rfl (fun κ sz hk hR hN => ?_)
  have hin12 : ∀ w ∈ u_ws RX12 TX12 55, w ∈ wz_m117_X12_lays := fun w h => (List.mem_cons_of_mem _ (List.mem_append_right _ (List.mem_append_left _ h)))
  refine g_bipush (v := 24) hk dX12_lays_0 (by decide) ?_
  refine g_istore_n (lv' := [(2, .int 24), (0, .ref (r 0)), (1, .int a302)]) hk dX12_lays_2 (by decide) rfl ?_
  refine g_iload_n hk dX12_lays_3 rfl ?_
  refine g_if_lt (tgt := 36) (a := 24) hk dX12_lays_4 (by decide) rfl (fun z9 => absurd z9 (show ¬ ((24 : Int) < (0 : Int)) from by decide)) (fun _ => ?_)
  refine g_aload_n hk dX12_lays_7 rfl ?_
  refine gM_r0_1 hk hin12 (List.mem_cons_of_mem _ (List.mem_append_left _ (List.mem_of_getElem? (i := 0) rfl))) dX12_lays_8 ?_
  refine g_aload_n hk dX12_lays_11 rfl ?_
  refine gM_i1 (v := 12) hk hin12 (List.mem_cons_of_mem _ (List.mem_append_left _ (List.mem_of_getElem? (i := 1) rfl))) dX12_lays_12 rfl ?_
  refine g_iload_n hk dX12_lays_15 rfl ?_
  refine g_iload_n hk dX12_lays_16 rfl ?_
  refine g_ishr hk dX12_lays_17 ?_
  refine g_topi (fun y303 ey303 => ?_)
  refine g_i2b hk dX12_lays_18 rfl ?_
  refine g_topi (fun y304 ey304 => ?_)
  refine sM_0 (j := 12) hk (vp_in_iff.mpr ⟨by decide, by decide⟩) (by decide) rfl dX12_lays_19 ?_
  generalize vp_nar .byte y304 = y305
  refine g_aload_n hk dX12_lays_20 rfl ?_
  refine g_dup hk dX12_lays_21 rfl ?_
  refine gM_i1 (v := 12) hk hin12 (List.mem_cons_of_mem _ (List.mem_append_left _ (List.mem_of_getElem? (i := 1) rfl))) dX12_lays_22 rfl ?_
  refine g_iconst (v := 1) hk dX12_lays_25 (by decide) ?_
  refine g_iadd hk dX12_lays_26 ?_
  refine g_norm (v := 13) (by decide) ?_
  refine pM_i1 hk hin12 (List.mem_cons_of_mem _ (List.mem_append_left _ (List.mem_of_getElem? (i := 1) rfl))) dX12_lays_27 ?_
  refine g_iinc (v := 16) (lv' := [(2, .int 16), (0, .ref (r 0)), (1, .int a302)]) hk 0 dX12_lays_30 rfl (by decide) (by decide) rfl ?_
  refine g_goto (tgt := 3) hk dX12_lays_33 (by decide) ?_
  refine g_iload_n hk dX12_lays_3 rfl ?_
  refine g_if_lt (tgt := 36) (a := 16) hk dX12_lays_4 (by decide) rfl (fun z9 => absurd z9 (show ¬ ((16 : Int) < (0 : Int)) from by decide)) (fun _ => ?_)
  refine g_aload_n hk dX12_lays_7 rfl ?_
  refine gM_r0_1 hk hin12 (List.mem_cons_of_mem _ (List.mem_append_left _ (List.mem_of_getElem? (i := 0) rfl))) dX12_lays_8 ?_
  refine g_aload_n hk dX12_lays_11 rfl ?_
  refine gM_i1 (v := 13) hk hin12 (List.mem_cons_of_mem _ (List.mem_append_left _ (List.mem_of_getElem? (i := 1) rfl))) dX12_lays_12 rfl ?_
  refine g_iload_n hk dX12_lays_15 rfl ?_
  refine g_iload_n hk dX12_lays_16 rfl ?_
  refine g_ishr hk dX12_lays_17 ?_
  refine g_topi (fun y306 ey306 => ?_)
  refine g_i2b hk dX12_lays_18 rfl ?_
  refine g_topi (fun y307 ey307 => ?_)
  refine sM_0 (j := 13) hk (vp_in_iff.mpr ⟨by decide, by decide⟩) (by decide) rfl dX12_lays_19 ?_
  generalize vp_nar .byte y307 = y308
  refine g_aload_n hk dX12_lays_20 rfl ?_
  refine g_dup hk dX12_lays_21 rfl ?_
  refine gM_i1 (v := 13) hk hin12 (List.mem_cons_of_mem _ (List.mem_append_left _ (List.mem_of_getElem? (i := 1) rfl))) dX12_lays_22 rfl ?_
  refine g_iconst (v := 1) hk dX12_lays_25 (by decide) ?_
  refine g_iadd hk dX12_lays_26 ?_
  refine g_norm (v := 14) (by decide) ?_
  refine pM_i1 hk hin12 (List.mem_cons_of_mem _ (List.mem_append_left _ (List.mem_of_getElem? (i := 1) rfl))) dX12_lays_27 ?_
  refine g_iinc (v := 8) (lv' := [(2, .int 8), (0, .ref (r 0)), (1, .int a302)]) hk 0 dX12_lays_30 rfl (by decide) (by decide) rfl ?_
  refine g_goto (tgt := 3) hk dX12_lays_33 (by decide) ?_
  refine g_iload_n hk dX12_lays_3 rfl ?_
  refine g_if_lt (tgt := 36) (a := 8) hk dX12_lays_4 (by decide) rfl (fun z9 => absurd z9 (show ¬ ((8 : Int) < (0 : Int)) from by decide)) (fun _ => ?_)
  refine g_aload_n hk dX12_lays_7 rfl ?_
  refine gM_r0_1 hk hin12 (List.mem_cons_of_mem _ (List.mem_append_left _ (List.mem_of_getElem? (i := 0) rfl))) dX12_lays_8 ?_
  refine g_aload_n hk dX12_lays_11 rfl ?_
  refine gM_i1 (v := 14) hk hin12 (List.mem_cons_of_mem _ (List.mem_append_left _ (List.mem_of_getElem? (i := 1) rfl))) dX12_lays_12 rfl ?_
  refine g_iload_n hk dX12_lays_15 rfl ?_
  refine g_iload_n hk dX12_lays_16 rfl ?_
  refine g_ishr hk dX12_lays_17 ?_
  refine g_topi (fun y309 ey309 => ?_)
  refine g_i2b hk dX12_lays_18 rfl ?_
  refine g_topi (fun y310 ey310 => ?_)
  refine sM_0 (j := 14) hk (vp_in_iff.mpr ⟨by decide, by decide⟩) (by decide) rfl dX12_lays_19 ?_
  generalize vp_nar .byte y310 = y311
  refine g_aload_n hk dX12_lays_20 rfl ?_
  refine g_dup hk dX12_lays_21 rfl ?_
  refine gM_i1 (v := 14) hk hin12 (List.mem_cons_of_mem _ (List.mem_append_left _ (List.mem_of_getElem? (i := 1) rfl))) dX12_lays_22 rfl ?_
  refine g_iconst (v := 1) hk dX12_lays_25 (by decide) ?_
  refine g_iadd hk dX12_lays_26 ?_
  refine g_norm (v := 15) (by decide) ?_
  refine pM_i1 hk hin12 (List.mem_cons_of_mem _ (List.mem_append_left _ (List.mem_of_getElem? (i := 1) rfl))) dX12_lays_27 ?_
  refine g_iinc (v := 0) (lv' := [(2, .int 0), (0, .ref (r 0)), (1, .int a302)]) hk 0 dX12_lays_30 rfl (by decide) (by decide) rfl ?_
  refine g_goto (tgt := 3) hk dX12_lays_33 (by decide) ?_
  refine g_iload_n hk dX12_lays_3 rfl ?_
  refine g_if_lt (tgt := 36) (a := 0) hk dX12_lays_4 (by decide) rfl (fun z9 => absurd z9 (show ¬ ((0 : Int) < (0 : Int)) from by decide)) (fun _ => ?_)
  refine g_aload_n hk dX12_lays_7 rfl ?_
  refine gM_r0_1 hk hin12 (List.mem_cons_of_mem _ (List.mem_append_left _ (List.mem_of_getElem? (i := 0) rfl))) dX12_lays_8 ?_
  refine g_aload_n hk dX12_lays_11 rfl ?_
  refine gM_i1 (v := 15) hk hin12 (List.mem_cons_of_mem _ (List.mem_append_left _ (List.mem_of_getElem? (i := 1) rfl))) dX12_lays_12 rfl ?_
  refine g_iload_n hk dX12_lays_15 rfl ?_
  refine g_iload_n hk dX12_lays_16 rfl ?_
  refine g_ishr hk dX12_lays_17 ?_
  refine g_topi (fun y312 ey312 => ?_)
  refine g_i2b hk dX12_lays_18 rfl ?_
  refine g_topi (fun y313 ey313 => ?_)
  refine sM_0 (j := 15) hk (vp_in_iff.mpr ⟨by decide, by decide⟩) (by decide) rfl dX12_lays_19 ?_
  generalize vp_nar .byte y313 = y314
  refine g_aload_n hk dX12_lays_20 rfl ?_
  refine g_dup hk dX12_lays_21 rfl ?_
  refine gM_i1 (v := 15) hk hin12 (List.mem_cons_of_mem _ (List.mem_append_left _ (List.mem_of_getElem? (i := 1) rfl))) dX12_lays_22 rfl ?_
  refine g_iconst (v := 1) hk dX12_lays_25 (by decide) ?_
  refine g_iadd hk dX12_lays_26 ?_
  refine g_norm (v := 16) (by decide) ?_
  refine pM_i1 hk hin12 (List.mem_cons_of_mem _ (List.mem_append_left _ (List.mem_of_getElem? (i := 1) rfl))) dX12_lays_27 ?_
  refine g_iinc (v := (-8)) (lv' := [(2, .int (-8)), (0, .ref (r 0)), (1, .int a302)]) hk 0 dX12_lays_30 rfl (by decide) (by decide) rfl ?_
  refine g_goto (tgt := 3) hk dX12_lays_33 (by decide) ?_
  refine g_iload_n hk dX12_lays_3 rfl ?_
  refine g_if_lt (tgt := 36) (a := (-8)) hk dX12_lays_4 (by decide) rfl (fun _ => ?_) (fun z9 => absurd (show ((-8) : Int) < (0 : Int) from by decide) z9)
  exact g_vret hk hR ⟨y305, y308, y311, y314, rfl, rfl⟩ dX12_lays_36
def wo_m118_X12_lays : List Cond := [Cond.fieldLink RX12 13 "WarpDeskModel" "tape" "[B", Cond.fieldLink RX12 124 "WarpDeskModel" "taped" "I"]
def wz_m118_X12_lays : List Cond := .code yX12_lays cX12_lays 3 none :: (wo_m118_X12_lays ++ (wsX120 ++ ([] : List Cond)))
theorem zg_m118_X12_lays : ∀ w ∈ wz_m118_X12_lays, goodWord w = true := zg_cons rfl (zg_app (by decide +kernel) (zg_app zgU_wsX120 zg_nil))
theorem zi_m118_X12_lays : ∀ w ∈ wz_m118_X12_lays, w ∈ lw_tbl := zi_cons zw_1552 (zi_app (zi_cons zw_1380 (zi_cons zw_1381 zi_nil)) (zi_app inX12 zi_nil))
set_option maxHeartbeats 4000000 in
set_option maxRecDepth 100000 in
theorem m118_X12_lays (l : Launch) (D : va_G) (zt : Nat × Nat × Nat) (g : Nat → ClassId) (r : Nat → Nat) (y264 : Int32) (y265 : Int32) (y266 : Int32) (y267 : Int32) (y281 : Int32) (y282 : Int32) (y283 : Int32) (y284 : Int32) (y298 : Int32) (y299 : Int32) (y300 : Int32) (y301 : Int32) (y315 : Int32) (y316 : Int32) (y317 : Int32) (y318 : Int32) (a319 : Int32) : GM l D zt (tyM g) yX12_lays wz_m118_X12_lays ({ frames := 0, cells := 0, slots := 0, locals := 0 } : Room) [.ref (r 0), .int a319] (wM r g (upd (upd (upd (upd (upd (upd (upd (upd (upd (upd (upd (upd (upd (upd (upd (upd iM1 1 1) 1 2) 1 3) 1 4) 1 5) 1 6) 1 7) 1 8) 1 9) 1 10) 1 11) 1 12) 1 13) 1 14) 1 15) 1 16) (up3 (up3 (up3 (up3 (up3 (up3 (up3 (up3 (up3 (up3 (up3 (up3 (up3 (up3 (up3 (up3 aM1 0 0 y264) 0 1 y265) 0 2 y266) 0 3 y267) 0 4 y281) 0 5 y282) 0 6 y283) 0 7 y284) 0 8 y298) 0 9 y299) 0 10 y300) 0 11 y301) 0 12 y315) 0 13 y316) 0 14 y317) 0 15 y318) lM1) (fun v _ w' => ∃ (y322 : Int32), ∃ (y325 : Int32), ∃ (y328 : Int32), ∃ (y331 : Int32), v = none ∧ w' = wM r g (upd (upd (upd (upd (upd (upd (upd (upd (upd (upd (upd (upd (upd (upd (upd (upd (upd (upd (upd (upd iM1 1 1) 1 2) 1 3) 1 4) 1 5) 1 6) 1 7) 1 8) 1 9) 1 10) 1 11) 1 12) 1 13) 1 14) 1 15) 1 16) 1 17) 1 18) 1 19) 1 20) (up3 (up3 (up3 (up3 (up3 (up3 (up3 (up3 (up3 (up3 (up3 (up3 (up3 (up3 (up3 (up3 (up3 (up3 (up3 (up3 aM1 0 0 y264) 0 1 y265) 0 2 y266) 0 3 y267) 0 4 y281) 0 5 y282) 0 6 y283) 0 7 y284) 0 8 y298) 0 9 y299) 0 10 y300) 0 11 y301) 0 12 y315) 0 13 y316) 0 14 y317) 0 15 y318) 0 16 y322) 0 17 y325) 0 18 y328) 0 19 y331) lM1) 0 0 := by
  refine GM.of (cc := cX12_lays) (maxL := 3) (ret := none) (own := RX12) (lv := [(0, .ref (r 0)), (1, .int a319)]) (by decide) rfl rfl (Nat.le_of_ble_eq_true rfl) rfl (fun κ sz hk hR hN => ?_)
  have hin12 : ∀ w ∈ u_ws RX12 TX12 55, w ∈ wz_m118_X12_lays := fun w h => (List.mem_cons_of_mem _ (List.mem_append_right _ (List.mem_append_left _ h)))
  refine g_bipush (v := 24) hk dX12_lays_0 (by decide) ?_
  refine g_istore_n (lv' := [(2, .int 24), (0, .ref (r 0)), (1, .int a319)]) hk dX12_lays_2 (by decide) rfl ?_
  refine g_iload_n hk dX12_lays_3 rfl ?_
  refine g_if_lt (tgt := 36) (a := 24) hk dX12_lays_4 (by decide) rfl (fun z9 => absurd z9 (show ¬ ((24 : Int) < (0 : Int)) from by decide)) (fun _ => ?_)
  refine g_aload_n hk dX12_lays_7 rfl ?_
  refine gM_r0_1 hk hin12 (List.mem_cons_of_mem _ (List.mem_append_left _ (List.mem_of_getElem? (i := 0) rfl))) dX12_lays_8 ?_
  refine g_aload_n hk dX12_lays_11 rfl ?_
  refine gM_i1 (v := 16) hk hin12 (List.mem_cons_of_mem _ (List.mem_append_left _ (List.mem_of_getElem? (i := 1) rfl))) dX12_lays_12 rfl ?_
  refine g_iload_n hk dX12_lays_15 rfl ?_
  refine g_iload_n hk dX12_lays_16 rfl ?_
  refine g_ishr hk dX12_lays_17 ?_
  refine g_topi (fun y320 ey320 => ?_)
  refine g_i2b hk dX12_lays_18 rfl ?_
  refine g_topi (fun y321 ey321 => ?_)
  refine sM_0 (j := 16) hk (vp_in_iff.mpr ⟨by decide, by decide⟩) (by decide) rfl dX12_lays_19 ?_
  generalize vp_nar .byte y321 = y322
  refine g_aload_n hk dX12_lays_20 rfl ?_
  refine g_dup hk dX12_lays_21 rfl ?_
  refine gM_i1 (v := 16) hk hin12 (List.mem_cons_of_mem _ (List.mem_append_left _ (List.mem_of_getElem? (i := 1) rfl))) dX12_lays_22 rfl ?_
  refine g_iconst (v := 1) hk dX12_lays_25 (by decide) ?_
  refine g_iadd hk dX12_lays_26 ?_
  refine g_norm (v := 17) (by decide) ?_
  refine pM_i1 hk hin12 (List.mem_cons_of_mem _ (List.mem_append_left _ (List.mem_of_getElem? (i := 1) rfl))) dX12_lays_27 ?_
  refine g_iinc (v := 16) (lv' := [(2, .int 16), (0, .ref (r 0)), (1, .int a319)]) hk 0 dX12_lays_30 rfl (by decide) (by decide) rfl ?_
  refine g_goto (tgt := 3) hk dX12_lays_33 (by decide) ?_
  refine g_iload_n hk dX12_lays_3 rfl ?_
  refine g_if_lt (tgt := 36) (a := 16) hk dX12_lays_4 (by decide) rfl (fun z9 => absurd z9 (show ¬ ((16 : Int) < (0 : Int)) from by decide)) (fun _ => ?_)
  refine g_aload_n hk dX12_lays_7 rfl ?_
  refine gM_r0_1 hk hin12 (List.mem_cons_of_mem _ (List.mem_append_left _ (List.mem_of_getElem? (i := 0) rfl))) dX12_lays_8 ?_
  refine g_aload_n hk dX12_lays_11 rfl ?_
  refine gM_i1 (v := 17) hk hin12 (List.mem_cons_of_mem _ (List.mem_append_left _ (List.mem_of_getElem? (i := 1) rfl))) dX12_lays_12 rfl ?_
  refine g_iload_n hk dX12_lays_15 rfl ?_
  refine g_iload_n hk dX12_lays_16 rfl ?_
  refine g_ishr hk dX12_lays_17 ?_
  refine g_topi (fun y323 ey323 => ?_)
  refine g_i2b hk dX12_lays_18 rfl ?_
  refine g_topi (fun y324 ey324 => ?_)
  refine sM_0 (j := 17) hk (vp_in_iff.mpr ⟨by decide, by decide⟩) (by decide) rfl dX12_lays_19 ?_
  generalize vp_nar .byte y324 = y325
  refine g_aload_n hk dX12_lays_20 rfl ?_
  refine g_dup hk dX12_lays_21 rfl ?_
  refine gM_i1 (v := 17) hk hin12 (List.mem_cons_of_mem _ (List.mem_append_left _ (List.mem_of_getElem? (i := 1) rfl))) dX12_lays_22 rfl ?_
  refine g_iconst (v := 1) hk dX12_lays_25 (by decide) ?_
  refine g_iadd hk dX12_lays_26 ?_
  refine g_norm (v := 18) (by decide) ?_
  refine pM_i1 hk hin12 (List.mem_cons_of_mem _ (List.mem_append_left _ (List.mem_of_getElem? (i := 1) rfl))) dX12_lays_27 ?_
  refine g_iinc (v := 8) (lv' := [(2, .int 8), (0, .ref (r 0)), (1, .int a319)]) hk 0 dX12_lays_30 rfl (by decide) (by decide) rfl ?_
  refine g_goto (tgt := 3) hk dX12_lays_33 (by decide) ?_
  refine g_iload_n hk dX12_lays_3 rfl ?_
  refine g_if_lt (tgt := 36) (a := 8) hk dX12_lays_4 (by decide) rfl (fun z9 => absurd z9 (show ¬ ((8 : Int) < (0 : Int)) from by decide)) (fun _ => ?_)
  refine g_aload_n hk dX12_lays_7 rfl ?_
  refine gM_r0_1 hk hin12 (List.mem_cons_of_mem _ (List.mem_append_left _ (List.mem_of_getElem? (i := 0) rfl))) dX12_lays_8 ?_
  refine g_aload_n hk dX12_lays_11 rfl ?_
  refine gM_i1 (v := 18) hk hin12 (List.mem_cons_of_mem _ (List.mem_append_left _ (List.mem_of_getElem? (i := 1) rfl))) dX12_lays_12 rfl ?_
  refine g_iload_n hk dX12_lays_15 rfl ?_
  refine g_iload_n hk dX12_lays_16 rfl ?_
  refine g_ishr hk dX12_lays_17 ?_
  refine g_topi (fun y326 ey326 => ?_)
  refine g_i2b hk dX12_lays_18 rfl ?_
  refine g_topi (fun y327 ey327 => ?_)
  refine sM_0 (j := 18) hk (vp_in_iff.mpr ⟨by decide, by decide⟩) (by decide) rfl dX12_lays_19 ?_
  generalize vp_nar .byte y327 = y328
  refine g_aload_n hk dX12_lays_20 rfl ?_
  refine g_dup hk dX12_lays_21 rfl ?_
  refine gM_i1 (v := 18) hk hin12 (List.mem_cons_of_mem _ (List.mem_append_left _ (List.mem_of_getElem? (i := 1) rfl))) dX12_lays_22 rfl ?_
  refine g_iconst (v := 1) hk dX12_lays_25 (by decide) ?_
  refine g_iadd hk dX12_lays_26 ?_
  refine g_norm (v := 19) (by decide) ?_
  refine pM_i1 hk hin12 (List.mem_cons_of_mem _ (List.mem_append_left _ (List.mem_of_getElem? (i := 1) rfl))) dX12_lays_27 ?_
  refine g_iinc (v := 0) (lv' := [(2, .int 0), (0, .ref (r 0)), (1, .int a319)]) hk 0 dX12_lays_30 rfl (by decide) (by decide) rfl ?_
  refine g_goto (tgt := 3) hk dX12_lays_33 (by decide) ?_
  refine g_iload_n hk dX12_lays_3 rfl ?_
  refine g_if_lt (tgt := 36) (a := 0) hk dX12_lays_4 (by decide) rfl (fun z9 => absurd z9 (show ¬ ((0 : Int) < (0 : Int)) from by decide)) (fun _ => ?_)
  refine g_aload_n hk dX12_lays_7 rfl ?_
  refine gM_r0_1 hk hin12 (List.mem_cons_of_mem _ (List.mem_append_left _ (List.mem_of_getElem? (i := 0) rfl))) dX12_lays_8 ?_
  refine g_aload_n hk dX12_lays_11 rfl ?_
  refine gM_i1 (v := 19) hk hin12 (List.mem_cons_of_mem _ (List.mem_append_left _ (List.mem_of_getElem? (i := 1) rfl))) dX12_lays_12 rfl ?_
  refine g_iload_n hk dX12_lays_15 rfl ?_
  refine g_iload_n hk dX12_lays_16 rfl ?_
  refine g_ishr hk dX12_lays_17 ?_
  refine g_topi (fun y329 ey329 => ?_)
  refine g_i2b hk dX12_lays_18 rfl ?_
  refine g_topi (fun y330 ey330 => ?_)
  refine sM_0 (j := 19) hk (vp_in_iff.mpr ⟨by decide, by decide⟩) (by decide) rfl dX12_lays_19 ?_
  generalize vp_nar .byte y330 = y331
  refine g_aload_n hk dX12_lays_20 rfl ?_
  refine g_dup hk dX12_lays_21 rfl ?_
  refine gM_i1 (v := 19) hk hin12 (List.mem_cons_of_mem _ (List.mem_append_left _ (List.mem_of_getElem? (i := 1) rfl))) dX12_lays_22 rfl ?_
  refine g_iconst (v := 1) hk dX12_lays_25 (by decide) ?_
  refine g_iadd hk dX12_lays_26 ?_
  refine g_norm (v := 20) (by decide) ?_
  refine pM_i1 hk hin12 (List.mem_cons_of_mem _ (List.mem_append_left _ (List.mem_of_getElem? (i := 1) rfl))) dX12_lays_27 ?_
  refine g_iinc (v := (-8)) (lv' := [(2, .int (-8)), (0, .ref (r 0)), (1, .int a319)]) hk 0 dX12_lays_30 rfl (by decide) (by decide) rfl ?_
  refine g_goto (tgt := 3) hk dX12_lays_33 (by decide) ?_
  refine g_iload_n hk dX12_lays_3 rfl ?_
  refine g_if_lt (tgt := 36) (a := (-8)) hk dX12_lays_4 (by decide) rfl (fun _ => ?_) (fun z9 => absurd (show ((-8) : Int) < (0 : Int) from by decide) z9)
  exact g_vret hk hR ⟨y322, y325, y328, y331, rfl, rfl⟩ dX12_lays_36
def wo_m113_X12_feed : List Cond := [Cond.fieldLink RX12 124 "WarpDeskModel" "taped" "I", Cond.methodLink RX12 127 yX12_lays, Cond.instanceMethod yX12_lays, Cond.selects RX12 yX12_lays yX12_lays, Cond.initialized RX12]
def wz_m113_X12_feed : List Cond := .code yX12_feed cX12_feed 6 (some .int) :: (wo_m113_X12_feed ++ (wsX120 ++ (wz_m114_X12_lays ++ (wz_m115_X12_lays ++ (wz_m116_X12_lays ++ (wz_m117_X12_lays ++ (wz_m118_X12_lays ++ ([] : List Cond))))))))
theorem zg_m113_X12_feed : ∀ w ∈ wz_m113_X12_feed, goodWord w = true := zg_cons rfl (zg_app (by decide +kernel) (zg_app zgU_wsX120 (zg_app zg_m114_X12_lays (zg_app zg_m115_X12_lays (zg_app zg_m116_X12_lays (zg_app zg_m117_X12_lays (zg_app zg_m118_X12_lays zg_nil)))))))
theorem zi_m113_X12_feed : ∀ w ∈ wz_m113_X12_feed, w ∈ lw_tbl := zi_cons zw_1548 (zi_app (zi_cons zw_1381 (zi_cons zw_1549 (zi_cons zw_1551 (zi_cons zw_47 (zi_cons zw_115 zi_nil))))) (zi_app inX12 (zi_app zi_m114_X12_lays (zi_app zi_m115_X12_lays (zi_app zi_m116_X12_lays (zi_app zi_m117_X12_lays (zi_app zi_m118_X12_lays zi_nil)))))))
set_option maxHeartbeats 4000000 in
set_option maxRecDepth 100000 in
theorem m113_X12_feed (l : Launch) (D : va_G) (zt : Nat × Nat × Nat) (g : Nat → ClassId) (r : Nat → Nat) (a246 : Int32) (a247 : Int32) (a248 : Int32) (a249 : Int32) (a250 : Int32) : GM l D zt (tyM g) yX12_feed wz_m113_X12_feed ({ frames := 1, cells := 0, slots := 0, locals := 22 } : Room) [.ref (r 0), .int a246, .int a247, .int a248, .int a249, .int a250] (wM r g iM1 aM1 lM1) (fun v _ w' => ∃ (y264 : Int32), ∃ (y265 : Int32), ∃ (y266 : Int32), ∃ (y267 : Int32), ∃ (y281 : Int32), ∃ (y282 : Int32), ∃ (y283 : Int32), ∃ (y284 : Int32), ∃ (y298 : Int32), ∃ (y299 : Int32), ∃ (y300 : Int32), ∃ (y301 : Int32), ∃ (y315 : Int32), ∃ (y316 : Int32), ∃ (y317 : Int32), ∃ (y318 : Int32), ∃ (y332 : Int32), ∃ (y333 : Int32), ∃ (y334 : Int32), ∃ (y335 : Int32), v = some (.int 20) ∧ w' = wM r g (upd (upd (upd (upd (upd (upd (upd (upd (upd (upd (upd (upd (upd (upd (upd (upd (upd (upd (upd (upd iM1 1 1) 1 2) 1 3) 1 4) 1 5) 1 6) 1 7) 1 8) 1 9) 1 10) 1 11) 1 12) 1 13) 1 14) 1 15) 1 16) 1 17) 1 18) 1 19) 1 20) (up3 (up3 (up3 (up3 (up3 (up3 (up3 (up3 (up3 (up3 (up3 (up3 (up3 (up3 (up3 (up3 (up3 (up3 (up3 (up3 aM1 0 0 y264) 0 1 y265) 0 2 y266) 0 3 y267) 0 4 y281) 0 5 y282) 0 6 y283) 0 7 y284) 0 8 y298) 0 9 y299) 0 10 y300) 0 11 y301) 0 12 y315) 0 13 y316) 0 14 y317) 0 15 y318) 0 16 y332) 0 17 y333) 0 18 y334) 0 19 y335) lM1) 0 0 := by
  refine GM.of (cc := cX12_feed) (maxL := 6) (ret := (some .int)) (own := RX12) (lv := [(0, .ref (r 0)), (1, .int a246), (2, .int a247), (3, .int a248), (4, .int a249), (5, .int a250)]) (by decide) rfl rfl (Nat.le_of_ble_eq_true rfl) rfl (fun κ sz hk hR hN => ?_)
  have hin12 : ∀ w ∈ u_ws RX12 TX12 55, w ∈ wz_m113_X12_feed := fun w h => (List.mem_cons_of_mem _ (List.mem_append_right _ (List.mem_append_left _ h)))
  refine g_aload_n hk dX12_feed_0 rfl ?_
  refine gM_i1 (v := 0) hk hin12 (List.mem_cons_of_mem _ (List.mem_append_left _ (List.mem_of_getElem? (i := 0) rfl))) dX12_feed_1 rfl ?_
  refine g_bipush (v := 20) hk dX12_feed_4 (by decide) ?_
  refine g_iadd hk dX12_feed_6 ?_
  refine g_norm (v := 20) (by decide) ?_
  refine g_sipush (v := 2000) hk dX12_feed_7 (by decide) ?_
  refine g_icmp_le (tgt := 15) (a := 20) (b := 2000) hk dX12_feed_10 (by decide) rfl rfl (fun _ => ?_) (fun z9 => absurd (show (20 : Int) ≤ (2000 : Int) from by decide) z9)
  refine g_aload_n hk dX12_feed_15 rfl ?_
  refine g_iload_n hk dX12_feed_16 rfl ?_
  refine g_callV (n := 1) hk (m114_X12_lays l D zt g r a246) (SP.same _) (fun _ h => h) (gi_V (List.mem_cons_of_mem _ (List.mem_append_left _ (List.mem_of_getElem? (i := 1) rfl))) (List.mem_cons_of_mem _ (List.mem_append_left _ (List.mem_of_getElem? (i := 2) rfl))) (List.mem_cons_of_mem _ (List.mem_append_left _ (List.mem_of_getElem? (i := 3) rfl))) (List.mem_cons_of_mem _ (List.mem_append_left _ (List.mem_of_getElem? (i := 4) rfl))) (gi_sub (fun w h => (List.mem_cons_of_mem _ (List.mem_append_right _ (List.mem_append_right _ (List.mem_append_left _ h))))) zg_m114_X12_lays)) rfl rfl rfl (by decide +kernel) ⟨Nat.le_of_ble_eq_true rfl, Nat.le_of_ble_eq_true rfl⟩ 0 rfl rfl rfl rfl (Nat.le_of_ble_eq_true rfl) ⟨Nat.le_of_ble_eq_true rfl, Nat.le_of_ble_eq_true rfl⟩ dX12_feed_17 (fun v ty' w' hp hk' => ?_)
  obtain ⟨y264, y265, y266, y267, rfl, rfl⟩ := hp
  show GW κ 6 0 0 (wM r g (upd (upd (upd (upd iM1 1 1) 1 2) 1 3) 1 4) (up3 (up3 (up3 (up3 aM1 0 0 y264) 0 1 y265) 0 2 y266) 0 3 y267) lM1) 20 [(0, .ref (r 0)), (1, .int a246), (2, .int a247), (3, .int a248), (4, .int a249), (5, .int a250)] []
  refine g_aload_n hk dX12_feed_20 rfl ?_
  refine g_iload_n hk dX12_feed_21 rfl ?_
  refine g_callV (n := 1) hk (m115_X12_lays l D zt g r y264 y265 y266 y267 a247) (SP.same _) (fun _ h => h) (gi_V (List.mem_cons_of_mem _ (List.mem_append_left _ (List.mem_of_getElem? (i := 1) rfl))) (List.mem_cons_of_mem _ (List.mem_append_left _ (List.mem_of_getElem? (i := 2) rfl))) (List.mem_cons_of_mem _ (List.mem_append_left _ (List.mem_of_getElem? (i := 3) rfl))) (List.mem_cons_of_mem _ (List.mem_append_left _ (List.mem_of_getElem? (i := 4) rfl))) (gi_sub (fun w h => (List.mem_cons_of_mem _ (List.mem_append_right _ (List.mem_append_right _ (List.mem_append_right _ (List.mem_append_left _ h)))))) zg_m115_X12_lays)) rfl rfl rfl (by decide +kernel) ⟨Nat.le_of_ble_eq_true rfl, Nat.le_of_ble_eq_true rfl⟩ 0 rfl rfl rfl rfl (Nat.le_of_ble_eq_true rfl) ⟨Nat.le_of_ble_eq_true rfl, Nat.le_of_ble_eq_true rfl⟩ dX12_feed_22 (fun v ty' w' hp hk' => ?_)
  obtain ⟨y281, y282, y283, y284, rfl, rfl⟩ := hp
  show GW κ 6 0 0 (wM r g (upd (upd (upd (upd (upd (upd (upd (upd iM1 1 1) 1 2) 1 3) 1 4) 1 5) 1 6) 1 7) 1 8) (up3 (up3 (up3 (up3 (up3 (up3 (up3 (up3 aM1 0 0 y264) 0 1 y265) 0 2 y266) 0 3 y267) 0 4 y281) 0 5 y282) 0 6 y283) 0 7 y284) lM1) 25 [(0, .ref (r 0)), (1, .int a246), (2, .int a247), (3, .int a248), (4, .int a249), (5, .int a250)] []
  refine g_aload_n hk dX12_feed_25 rfl ?_
  refine g_iload_n hk dX12_feed_26 rfl ?_
  refine g_callV (n := 1) hk (m116_X12_lays l D zt g r y264 y265 y266 y267 y281 y282 y283 y284 a248) (SP.same _) (fun _ h => h) (gi_V (List.mem_cons_of_mem _ (List.mem_append_left _ (List.mem_of_getElem? (i := 1) rfl))) (List.mem_cons_of_mem _ (List.mem_append_left _ (List.mem_of_getElem? (i := 2) rfl))) (List.mem_cons_of_mem _ (List.mem_append_left _ (List.mem_of_getElem? (i := 3) rfl))) (List.mem_cons_of_mem _ (List.mem_append_left _ (List.mem_of_getElem? (i := 4) rfl))) (gi_sub (fun w h => (List.mem_cons_of_mem _ (List.mem_append_right _ (List.mem_append_right _ (List.mem_append_right _ (List.mem_append_right _ (List.mem_append_left _ h))))))) zg_m116_X12_lays)) rfl rfl rfl (by decide +kernel) ⟨Nat.le_of_ble_eq_true rfl, Nat.le_of_ble_eq_true rfl⟩ 0 rfl rfl rfl rfl (Nat.le_of_ble_eq_true rfl) ⟨Nat.le_of_ble_eq_true rfl, Nat.le_of_ble_eq_true rfl⟩ dX12_feed_27 (fun v ty' w' hp hk' => ?_)
  obtain ⟨y298, y299, y300, y301, rfl, rfl⟩ := hp
  show GW κ 6 0 0 (wM r g (upd (upd (upd (upd (upd (upd (upd (upd (upd (upd (upd (upd iM1 1 1) 1 2) 1 3) 1 4) 1 5) 1 6) 1 7) 1 8) 1 9) 1 10) 1 11) 1 12) (up3 (up3 (up3 (up3 (up3 (up3 (up3 (up3 (up3 (up3 (up3 (up3 aM1 0 0 y264) 0 1 y265) 0 2 y266) 0 3 y267) 0 4 y281) 0 5 y282) 0 6 y283) 0 7 y284) 0 8 y298) 0 9 y299) 0 10 y300) 0 11 y301) lM1) 30 [(0, .ref (r 0)), (1, .int a246), (2, .int a247), (3, .int a248), (4, .int a249), (5, .int a250)] []
  refine g_aload_n hk dX12_feed_30 rfl ?_
  refine g_iload hk dX12_feed_31 rfl ?_
  refine g_callV (n := 1) hk (m117_X12_lays l D zt g r y264 y265 y266 y267 y281 y282 y283 y284 y298 y299 y300 y301 a249) (SP.same _) (fun _ h => h) (gi_V (List.mem_cons_of_mem _ (List.mem_append_left _ (List.mem_of_getElem? (i := 1) rfl))) (List.mem_cons_of_mem _ (List.mem_append_left _ (List.mem_of_getElem? (i := 2) rfl))) (List.mem_cons_of_mem _ (List.mem_append_left _ (List.mem_of_getElem? (i := 3) rfl))) (List.mem_cons_of_mem _ (List.mem_append_left _ (List.mem_of_getElem? (i := 4) rfl))) (gi_sub (fun w h => (List.mem_cons_of_mem _ (List.mem_append_right _ (List.mem_append_right _ (List.mem_append_right _ (List.mem_append_right _ (List.mem_append_right _ (List.mem_append_left _ h)))))))) zg_m117_X12_lays)) rfl rfl rfl (by decide +kernel) ⟨Nat.le_of_ble_eq_true rfl, Nat.le_of_ble_eq_true rfl⟩ 0 rfl rfl rfl rfl (Nat.le_of_ble_eq_true rfl) ⟨Nat.le_of_ble_eq_true rfl, Nat.le_of_ble_eq_true rfl⟩ dX12_feed_33 (fun v ty' w' hp hk' => ?_)
  obtain ⟨y315, y316, y317, y318, rfl, rfl⟩ := hp
  show GW κ 6 0 0 (wM r g (upd (upd (upd (upd (upd (upd (upd (upd (upd (upd (upd (upd (upd (upd (upd (upd iM1 1 1) 1 2) 1 3) 1 4) 1 5) 1 6) 1 7) 1 8) 1 9) 1 10) 1 11) 1 12) 1 13) 1 14) 1 15) 1 16) (up3 (up3 (up3 (up3 (up3 (up3 (up3 (up3 (up3 (up3 (up3 (up3 (up3 (up3 (up3 (up3 aM1 0 0 y264) 0 1 y265) 0 2 y266) 0 3 y267) 0 4 y281) 0 5 y282) 0 6 y283) 0 7 y284) 0 8 y298) 0 9 y299) 0 10 y300) 0 11 y301) 0 12 y315) 0 13 y316) 0 14 y317) 0 15 y318) lM1) 36 [(0, .ref (r 0)), (1, .int a246), (2, .int a247), (3, .int a248), (4, .int a249), (5, .int a250)] []
  refine g_aload_n hk dX12_feed_36 rfl ?_
  refine g_iload hk dX12_feed_37 rfl ?_
  refine g_callV (n := 1) hk (m118_X12_lays l D zt g r y264 y265 y266 y267 y281 y282 y283 y284 y298 y299 y300 y301 y315 y316 y317 y318 a250) (SP.same _) (fun _ h => h) (gi_V (List.mem_cons_of_mem _ (List.mem_append_left _ (List.mem_of_getElem? (i := 1) rfl))) (List.mem_cons_of_mem _ (List.mem_append_left _ (List.mem_of_getElem? (i := 2) rfl))) (List.mem_cons_of_mem _ (List.mem_append_left _ (List.mem_of_getElem? (i := 3) rfl))) (List.mem_cons_of_mem _ (List.mem_append_left _ (List.mem_of_getElem? (i := 4) rfl))) (gi_sub (fun w h => (List.mem_cons_of_mem _ (List.mem_append_right _ (List.mem_append_right _ (List.mem_append_right _ (List.mem_append_right _ (List.mem_append_right _ (List.mem_append_right _ (List.mem_append_left _ h))))))))) zg_m118_X12_lays)) rfl rfl rfl (by decide +kernel) ⟨Nat.le_of_ble_eq_true rfl, Nat.le_of_ble_eq_true rfl⟩ 0 rfl rfl rfl rfl (Nat.le_of_ble_eq_true rfl) ⟨Nat.le_of_ble_eq_true rfl, Nat.le_of_ble_eq_true rfl⟩ dX12_feed_39 (fun v ty' w' hp hk' => ?_)
  obtain ⟨y332, y333, y334, y335, rfl, rfl⟩ := hp
  show GW κ 6 0 0 (wM r g (upd (upd (upd (upd (upd (upd (upd (upd (upd (upd (upd (upd (upd (upd (upd (upd (upd (upd (upd (upd iM1 1 1) 1 2) 1 3) 1 4) 1 5) 1 6) 1 7) 1 8) 1 9) 1 10) 1 11) 1 12) 1 13) 1 14) 1 15) 1 16) 1 17) 1 18) 1 19) 1 20) (up3 (up3 (up3 (up3 (up3 (up3 (up3 (up3 (up3 (up3 (up3 (up3 (up3 (up3 (up3 (up3 (up3 (up3 (up3 (up3 aM1 0 0 y264) 0 1 y265) 0 2 y266) 0 3 y267) 0 4 y281) 0 5 y282) 0 6 y283) 0 7 y284) 0 8 y298) 0 9 y299) 0 10 y300) 0 11 y301) 0 12 y315) 0 13 y316) 0 14 y317) 0 15 y318) 0 16 y332) 0 17 y333) 0 18 y334) 0 19 y335) lM1) 42 [(0, .ref (r 0)), (1, .int a246), (2, .int a247), (3, .int a248), (4, .int a249), (5, .int a250)] []
  refine g_aload_n hk dX12_feed_42 rfl ?_
  refine gM_i1 (v := 20) hk hin12 (List.mem_cons_of_mem _ (List.mem_append_left _ (List.mem_of_getElem? (i := 0) rfl))) dX12_feed_43 rfl ?_
  exact g_iret hk hR rfl ⟨y264, y265, y266, y267, y281, y282, y283, y284, y298, y299, y300, y301, y315, y316, y317, y318, y332, y333, y334, y335, rfl, rfl⟩ dX12_feed_46
def wo_m119_X12_back : List Cond := [Cond.fieldLink RX12 124 "WarpDeskModel" "taped" "I"]
def wz_m119_X12_back : List Cond := .code yX12_back cX12_back 2 (some .int) :: (wo_m119_X12_back ++ (wsX120 ++ ([] : List Cond)))
theorem zg_m119_X12_back : ∀ w ∈ wz_m119_X12_back, goodWord w = true := zg_cons rfl (zg_app (by decide +kernel) (zg_app zgU_wsX120 zg_nil))
theorem zi_m119_X12_back : ∀ w ∈ wz_m119_X12_back, w ∈ lw_tbl := zi_cons zw_1556 (zi_app (zi_cons zw_1381 zi_nil) (zi_app inX12 zi_nil))
set_option maxHeartbeats 4000000 in
set_option maxRecDepth 100000 in
theorem m119_X12_back (l : Launch) (D : va_G) (zt : Nat × Nat × Nat) (g : Nat → ClassId) (r : Nat → Nat) (a336 : Int32) : GM l D zt (tyM g) yX12_back wz_m119_X12_back ({ frames := 0, cells := 0, slots := 0, locals := 0 } : Room) [.ref (r 0), .int a336] (wM r g iM1 aM1 lM1) (fun v _ w' => ((a336.toInt < 0) ∧ v = some (.int (-1)) ∧ w' = wM r g iM1 aM1 lM1) ∨ ((¬ (a336.toInt < 0)) ∧ (a336.toInt ≤ 0) ∧ (a336.toInt = 0) ∧ v = some (.int 0) ∧ w' = wM r g iM1 aM1 lM1) ∨ ((¬ (a336.toInt < 0)) ∧ (¬ (a336.toInt ≤ 0)) ∧ v = some (.int (-1)) ∧ w' = wM r g iM1 aM1 lM1)) 0 0 := by
  refine GM.of (cc := cX12_back) (maxL := 2) (ret := (some .int)) (own := RX12) (lv := [(0, .ref (r 0)), (1, .int a336)]) (by decide) rfl rfl (Nat.le_of_ble_eq_true rfl) rfl (fun κ sz hk hR hN => ?_)
  have hin12 : ∀ w ∈ u_ws RX12 TX12 55, w ∈ wz_m119_X12_back := fun w h => (List.mem_cons_of_mem _ (List.mem_append_right _ (List.mem_append_left _ h)))
  refine g_iload_n hk dX12_back_0 rfl ?_
  refine g_if_lt (tgt := 12) (a := a336.toInt) hk dX12_back_1 (by decide) rfl (fun c337 => ?_) (fun c337 => ?_)
  · skip
    refine g_iconst (v := (-1)) hk dX12_back_12 (by decide) ?_
    exact g_iret hk hR rfl (Or.inl ⟨c337, rfl, rfl⟩) dX12_back_13
  · skip
    refine g_iload_n hk dX12_back_4 rfl ?_
    refine g_aload_n hk dX12_back_5 rfl ?_
    refine gM_i1 (v := 0) hk hin12 (List.mem_cons_of_mem _ (List.mem_append_left _ (List.mem_of_getElem? (i := 0) rfl))) dX12_back_6 rfl ?_
    refine g_icmp_le (tgt := 14) (a := a336.toInt) (b := 0) hk dX12_back_9 (by decide) rfl rfl (fun c338 => ?_) (fun c338 => ?_)
    · skip
      refine g_aload_n hk dX12_back_14 rfl ?_
      refine g_dup hk dX12_back_15 rfl ?_
      refine gM_i1 (v := 0) hk hin12 (List.mem_cons_of_mem _ (List.mem_append_left _ (List.mem_of_getElem? (i := 0) rfl))) dX12_back_16 rfl ?_
      refine g_iload_n hk dX12_back_19 rfl ?_
      by_cases c339 : a336.toInt = 0
      · obtain rfl : a336 = 0 := Int32.toInt_inj.mp c339
        refine g_isub hk dX12_back_20 ?_
        refine g_norm (v := 0) (by decide) ?_
        refine pM_i1 hk hin12 (List.mem_cons_of_mem _ (List.mem_append_left _ (List.mem_of_getElem? (i := 0) rfl))) dX12_back_21 ?_
        refine gM_sameI rfl ?_
        refine g_aload_n hk dX12_back_24 rfl ?_
        refine gM_i1 (v := 0) hk hin12 (List.mem_cons_of_mem _ (List.mem_append_left _ (List.mem_of_getElem? (i := 0) rfl))) dX12_back_25 rfl ?_
        exact g_iret hk hR rfl (Or.inr (Or.inl ⟨c337, c338, c339, rfl, rfl⟩)) dX12_back_28
      exfalso; omega
    · skip
      refine g_iconst (v := (-1)) hk dX12_back_12 (by decide) ?_
      exact g_iret hk hR rfl (Or.inr (Or.inr (⟨c337, c338, rfl, rfl⟩))) dX12_back_13
def wo_m122_X12_byteAt : List Cond := [Cond.fieldLink RX12 130 "WarpDeskModel" "size" "I"]
def wz_m122_X12_byteAt : List Cond := .code yX12_byteAt cX12_byteAt 2 (some .int) :: (wo_m122_X12_byteAt ++ (wsX120 ++ ([] : List Cond)))
theorem zg_m122_X12_byteAt : ∀ w ∈ wz_m122_X12_byteAt, goodWord w = true := zg_cons rfl (zg_app (by decide +kernel) (zg_app zgU_wsX120 zg_nil))
theorem zi_m122_X12_byteAt : ∀ w ∈ wz_m122_X12_byteAt, w ∈ lw_tbl := zi_cons zw_1568 (zi_app (zi_cons zw_1383 zi_nil) (zi_app inX12 zi_nil))
set_option maxHeartbeats 4000000 in
set_option maxRecDepth 100000 in
theorem m122_X12_byteAt (l : Launch) (D : va_G) (zt : Nat × Nat × Nat) (g : Nat → ClassId) (r : Nat → Nat) : GM l D zt (tyM g) yX12_byteAt wz_m122_X12_byteAt ({ frames := 0, cells := 0, slots := 0, locals := 0 } : Room) [.ref (r 0), .int 0] (wM r g iM1 aM1 lM1) (fun v _ w' => v = some (.int 0) ∧ w' = wM r g iM1 aM1 lM1) 0 0 := by
  refine GM.of (cc := cX12_byteAt) (maxL := 2) (ret := (some .int)) (own := RX12) (lv := [(0, .ref (r 0)), (1, .int 0)]) (by decide) rfl rfl (Nat.le_of_ble_eq_true rfl) rfl (fun κ sz hk hR hN => ?_)
  have hin12 : ∀ w ∈ u_ws RX12 TX12 55, w ∈ wz_m122_X12_byteAt := fun w h => (List.mem_cons_of_mem _ (List.mem_append_right _ (List.mem_append_left _ h)))
  refine g_iload_n hk dX12_byteAt_0 rfl ?_
  refine g_aload_n hk dX12_byteAt_1 rfl ?_
  refine gM_i2 (v := 0) hk hin12 (List.mem_cons_of_mem _ (List.mem_append_left _ (List.mem_of_getElem? (i := 0) rfl))) dX12_byteAt_2 rfl ?_
  refine g_icmp_ge (tgt := 21) (a := 0) (b := 0) hk dX12_byteAt_5 (by decide) rfl rfl (fun _ => ?_) (fun z9 => absurd (show (0 : Int) ≤ (0 : Int) from by decide) z9)
  refine g_iconst (v := 0) hk dX12_byteAt_21 (by decide) ?_
  exact g_iret hk hR rfl ⟨rfl, rfl⟩ dX12_byteAt_22
def wo_m123_X12_token : List Cond := [Cond.fieldLink RX12 20 "WarpDeskModel" "tKind" "[I", Cond.fieldLink RX12 139 "WarpDeskModel" "tokens" "I", Cond.fieldLink RX12 24 "WarpDeskModel" "tPlace" "[I", Cond.fieldLink RX12 27 "WarpDeskModel" "tValue" "[I", Cond.fieldLink RX12 30 "WarpDeskModel" "tName" "[J"]
def wz_m123_X12_token : List Cond := .code yX12_token cX12_token 6 none :: (wo_m123_X12_token ++ (wsX120 ++ ([] : List Cond)))
theorem zg_m123_X12_token : ∀ w ∈ wz_m123_X12_token, goodWord w = true := zg_cons rfl (zg_app (by decide +kernel) (zg_app zgU_wsX120 zg_nil))
theorem zi_m123_X12_token : ∀ w ∈ wz_m123_X12_token, w ∈ lw_tbl := zi_cons zw_1572 (zi_app (zi_cons zw_1384 (zi_cons zw_1389 (zi_cons zw_1385 (zi_cons zw_1386 (zi_cons zw_1387 zi_nil))))) (zi_app inX12 zi_nil))
set_option maxHeartbeats 4000000 in
set_option maxRecDepth 100000 in
theorem m123_X12_token (l : Launch) (D : va_G) (zt : Nat × Nat × Nat) (g : Nat → ClassId) (r : Nat → Nat) : GM l D zt (tyM g) yX12_token wz_m123_X12_token ({ frames := 0, cells := 0, slots := 0, locals := 0 } : Room) [.ref (r 0), .int 0, .int 0, .int 0, .long 0] (wM r g iM1 aM1 lM1) (fun v _ w' => v = none ∧ w' = wM r g (upd iM1 3 1) aM1 (up3L lM1 5 0 0)) 0 0 := by
  refine GM.of (cc := cX12_token) (maxL := 6) (ret := none) (own := RX12) (lv := [(0, .ref (r 0)), (1, .int 0), (2, .int 0), (3, .int 0), (4, .long 0)]) (by decide) rfl rfl (Nat.le_of_ble_eq_true rfl) rfl (fun κ sz hk hR hN => ?_)
  have hin12 : ∀ w ∈ u_ws RX12 TX12 55, w ∈ wz_m123_X12_token := fun w h => (List.mem_cons_of_mem _ (List.mem_append_right _ (List.mem_append_left _ h)))
  refine g_aload_n hk dX12_token_0 rfl ?_
  refine gM_r0_5 hk hin12 (List.mem_cons_of_mem _ (List.mem_append_left _ (List.mem_of_getElem? (i := 0) rfl))) dX12_token_1 ?_
  refine g_aload_n hk dX12_token_4 rfl ?_
  refine gM_i3 (v := 0) hk hin12 (List.mem_cons_of_mem _ (List.mem_append_left _ (List.mem_of_getElem? (i := 1) rfl))) dX12_token_5 rfl ?_
  refine g_iload_n hk dX12_token_8 rfl ?_
  refine sM_2 (j := 0) hk (vp_in_iff.mpr ⟨by decide, by decide⟩) (by decide) dX12_token_9 ?_
  refine gM_same rfl ?_
  refine g_aload_n hk dX12_token_10 rfl ?_
  refine gM_r0_6 hk hin12 (List.mem_cons_of_mem _ (List.mem_append_left _ (List.mem_of_getElem? (i := 2) rfl))) dX12_token_11 ?_
  refine g_aload_n hk dX12_token_14 rfl ?_
  refine gM_i3 (v := 0) hk hin12 (List.mem_cons_of_mem _ (List.mem_append_left _ (List.mem_of_getElem? (i := 1) rfl))) dX12_token_15 rfl ?_
  refine g_iload_n hk dX12_token_18 rfl ?_
  refine sM_3 (j := 0) hk (vp_in_iff.mpr ⟨by decide, by decide⟩) (by decide) dX12_token_19 ?_
  refine gM_same rfl ?_
  refine g_aload_n hk dX12_token_20 rfl ?_
  refine gM_r0_7 hk hin12 (List.mem_cons_of_mem _ (List.mem_append_left _ (List.mem_of_getElem? (i := 3) rfl))) dX12_token_21 ?_
  refine g_aload_n hk dX12_token_24 rfl ?_
  refine gM_i3 (v := 0) hk hin12 (List.mem_cons_of_mem _ (List.mem_append_left _ (List.mem_of_getElem? (i := 1) rfl))) dX12_token_25 rfl ?_
  refine g_iload_n hk dX12_token_28 rfl ?_
  refine sM_4 (j := 0) hk (vp_in_iff.mpr ⟨by decide, by decide⟩) (by decide) dX12_token_29 ?_
  refine gM_same rfl ?_
  refine g_aload_n hk dX12_token_30 rfl ?_
  refine gM_r0_8 hk hin12 (List.mem_cons_of_mem _ (List.mem_append_left _ (List.mem_of_getElem? (i := 4) rfl))) dX12_token_31 ?_
  refine g_aload_n hk dX12_token_34 rfl ?_
  refine gM_i3 (v := 0) hk hin12 (List.mem_cons_of_mem _ (List.mem_append_left _ (List.mem_of_getElem? (i := 1) rfl))) dX12_token_35 rfl ?_
  refine g_lload hk dX12_token_38 rfl ?_
  refine sM_5 (j := 0) hk (vp_in_iff.mpr ⟨by decide, by decide⟩) (by decide) dX12_token_40 ?_
  refine g_aload_n hk dX12_token_41 rfl ?_
  refine g_dup hk dX12_token_42 rfl ?_
  refine gM_i3 (v := 0) hk hin12 (List.mem_cons_of_mem _ (List.mem_append_left _ (List.mem_of_getElem? (i := 1) rfl))) dX12_token_43 rfl ?_
  refine g_iconst (v := 1) hk dX12_token_46 (by decide) ?_
  refine g_iadd hk dX12_token_47 ?_
  refine g_norm (v := 1) (by decide) ?_
  refine pM_i3 hk hin12 (List.mem_cons_of_mem _ (List.mem_append_left _ (List.mem_of_getElem? (i := 1) rfl))) dX12_token_48 ?_
  exact g_vret hk hR ⟨rfl, rfl⟩ dX12_token_51
