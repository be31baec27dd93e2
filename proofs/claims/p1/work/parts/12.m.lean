def wo_m52_X12_letters : List Cond := [Cond.methodLink RX12 135 yX12_appends, Cond.static yX12_appends, Cond.initialized RX12]
def wz_m52_X12_letters : List Cond := .code yX12_letters cX12_letters 7 (some .long) :: (wo_m52_X12_letters ++ (wz_m53_X12_appends ++ (wz_m54_X12_appends ++ (wz_m55_X12_appends ++ (wz_m56_X12_appends ++ (wz_m57_X12_appends ++ ([] : List Cond)))))))
theorem zg_m52_X12_letters : ∀ w ∈ wz_m52_X12_letters, goodWord w = true := zg_cons rfl (zg_app (by decide +kernel) (zg_app zg_m53_X12_appends (zg_app zg_m54_X12_appends (zg_app zg_m55_X12_appends (zg_app zg_m56_X12_appends (zg_app zg_m57_X12_appends zg_nil))))))
theorem zi_m52_X12_letters : ∀ w ∈ wz_m52_X12_letters, w ∈ lw_tbl := zi_cons zw_1367 (zi_app (zi_cons zw_1368 (zi_cons zw_1369 (zi_cons zw_115 zi_nil))) (zi_app zi_m53_X12_appends (zi_app zi_m54_X12_appends (zi_app zi_m55_X12_appends (zi_app zi_m56_X12_appends (zi_app zi_m57_X12_appends zi_nil))))))
set_option maxHeartbeats 4000000 in
set_option maxRecDepth 100000 in
theorem m52_X12_letters (l : Launch) (D : va_G) (zt : Nat × Nat × Nat) (g : Nat → ClassId) (r : Nat → Nat) : GM l D zt (tyM g) yX12_letters wz_m52_X12_letters ({ frames := 1, cells := 0, slots := 0, locals := 22 } : Room) [.int 99, .int 111, .int 115, .int 116, .int 0, .int 0, .int 0] (wM r g (upd iM0 14 (-1)) (up3 (up3 (up3 (up3 aM0 13 0 2) 16 0 8) 13 1 2) 16 1 8) (up3L (up3L (up3L (up3L lM0 6 0 275647447) 6 1 9451996) 6 2 40477) 6 3 6491892)) (fun v _ w' => v = some (.long 70517) ∧ w' = wM r g (upd iM0 14 (-1)) (up3 (up3 (up3 (up3 aM0 13 0 2) 16 0 8) 13 1 2) 16 1 8) (up3L (up3L (up3L (up3L lM0 6 0 275647447) 6 1 9451996) 6 2 40477) 6 3 6491892)) 0 0 := by
  refine GM.of (cc := cX12_letters) (maxL := 7) (ret := (some .long)) (own := RX12) (lv := [(0, .int 99), (1, .int 111), (2, .int 115), (3, .int 116), (4, .int 0), (5, .int 0), (6, .int 0)]) (by decide) rfl rfl (Nat.le_of_ble_eq_true rfl) rfl (fun κ sz hk hR hN => ?_)
  refine g_lconst (v := 0) hk dX12_letters_0 (by decide) ?_
  refine g_iload_n hk dX12_letters_1 rfl ?_
  refine g_callS (n := 2) hk (m53_X12_appends l D zt g r) (SP.same _) (fun _ h => h) (gi_S (List.mem_cons_of_mem _ (List.mem_append_left _ (List.mem_of_getElem? (i := 0) rfl))) (List.mem_cons_of_mem _ (List.mem_append_left _ (List.mem_of_getElem? (i := 1) rfl))) (List.mem_cons_of_mem _ (List.mem_append_left _ (List.mem_of_getElem? (i := 2) rfl))) (gi_sub (fun w h => (List.mem_cons_of_mem _ (List.mem_append_right _ (List.mem_append_left _ h)))) zg_m53_X12_appends)) rfl rfl rfl (by decide +kernel) ⟨Nat.le_of_ble_eq_true rfl, Nat.le_of_ble_eq_true rfl⟩ rfl rfl (Nat.le_of_ble_eq_true rfl) ⟨Nat.le_of_ble_eq_true rfl, Nat.le_of_ble_eq_true rfl⟩ dX12_letters_2 (fun v ty' w' hp hk' => ?_)
  obtain ⟨rfl, rfl⟩ := hp
  show GW κ 7 0 0 (wM r g (upd iM0 14 (-1)) (up3 (up3 (up3 (up3 aM0 13 0 2) 16 0 8) 13 1 2) 16 1 8) (up3L (up3L (up3L (up3L lM0 6 0 275647447) 6 1 9451996) 6 2 40477) 6 3 6491892)) 5 [(0, .int 99), (1, .int 111), (2, .int 115), (3, .int 116), (4, .int 0), (5, .int 0), (6, .int 0)] [.long 3]
  refine g_iload_n hk dX12_letters_5 rfl ?_
  refine g_callS (n := 2) hk (m54_X12_appends l D zt g r) (SP.same _) (fun _ h => h) (gi_S (List.mem_cons_of_mem _ (List.mem_append_left _ (List.mem_of_getElem? (i := 0) rfl))) (List.mem_cons_of_mem _ (List.mem_append_left _ (List.mem_of_getElem? (i := 1) rfl))) (List.mem_cons_of_mem _ (List.mem_append_left _ (List.mem_of_getElem? (i := 2) rfl))) (gi_sub (fun w h => (List.mem_cons_of_mem _ (List.mem_append_right _ (List.mem_append_right _ (List.mem_append_left _ h))))) zg_m54_X12_appends)) rfl rfl rfl (by decide +kernel) ⟨Nat.le_of_ble_eq_true rfl, Nat.le_of_ble_eq_true rfl⟩ rfl rfl (Nat.le_of_ble_eq_true rfl) ⟨Nat.le_of_ble_eq_true rfl, Nat.le_of_ble_eq_true rfl⟩ dX12_letters_6 (fun v ty' w' hp hk' => ?_)
  obtain ⟨rfl, rfl⟩ := hp
  show GW κ 7 0 0 (wM r g (upd iM0 14 (-1)) (up3 (up3 (up3 (up3 aM0 13 0 2) 16 0 8) 13 1 2) 16 1 8) (up3L (up3L (up3L (up3L lM0 6 0 275647447) 6 1 9451996) 6 2 40477) 6 3 6491892)) 9 [(0, .int 99), (1, .int 111), (2, .int 115), (3, .int 116), (4, .int 0), (5, .int 0), (6, .int 0)] [.long 96]
  refine g_iload_n hk dX12_letters_9 rfl ?_
  refine g_callS (n := 2) hk (m55_X12_appends l D zt g r) (SP.same _) (fun _ h => h) (gi_S (List.mem_cons_of_mem _ (List.mem_append_left _ (List.mem_of_getElem? (i := 0) rfl))) (List.mem_cons_of_mem _ (List.mem_append_left _ (List.mem_of_getElem? (i := 1) rfl))) (List.mem_cons_of_mem _ (List.mem_append_left _ (List.mem_of_getElem? (i := 2) rfl))) (gi_sub (fun w h => (List.mem_cons_of_mem _ (List.mem_append_right _ (List.mem_append_right _ (List.mem_append_right _ (List.mem_append_left _ h)))))) zg_m55_X12_appends)) rfl rfl rfl (by decide +kernel) ⟨Nat.le_of_ble_eq_true rfl, Nat.le_of_ble_eq_true rfl⟩ rfl rfl (Nat.le_of_ble_eq_true rfl) ⟨Nat.le_of_ble_eq_true rfl, Nat.le_of_ble_eq_true rfl⟩ dX12_letters_10 (fun v ty' w' hp hk' => ?_)
  obtain ⟨rfl, rfl⟩ := hp
  show GW κ 7 0 0 (wM r g (upd iM0 14 (-1)) (up3 (up3 (up3 (up3 aM0 13 0 2) 16 0 8) 13 1 2) 16 1 8) (up3L (up3L (up3L (up3L lM0 6 0 275647447) 6 1 9451996) 6 2 40477) 6 3 6491892)) 13 [(0, .int 99), (1, .int 111), (2, .int 115), (3, .int 116), (4, .int 0), (5, .int 0), (6, .int 0)] [.long 2611]
  refine g_iload_n hk dX12_letters_13 rfl ?_
  refine g_callS (n := 2) hk (m56_X12_appends l D zt g r) (SP.same _) (fun _ h => h) (gi_S (List.mem_cons_of_mem _ (List.mem_append_left _ (List.mem_of_getElem? (i := 0) rfl))) (List.mem_cons_of_mem _ (List.mem_append_left _ (List.mem_of_getElem? (i := 1) rfl))) (List.mem_cons_of_mem _ (List.mem_append_left _ (List.mem_of_getElem? (i := 2) rfl))) (gi_sub (fun w h => (List.mem_cons_of_mem _ (List.mem_append_right _ (List.mem_append_right _ (List.mem_append_right _ (List.mem_append_right _ (List.mem_append_left _ h))))))) zg_m56_X12_appends)) rfl rfl rfl (by decide +kernel) ⟨Nat.le_of_ble_eq_true rfl, Nat.le_of_ble_eq_true rfl⟩ rfl rfl (Nat.le_of_ble_eq_true rfl) ⟨Nat.le_of_ble_eq_true rfl, Nat.le_of_ble_eq_true rfl⟩ dX12_letters_14 (fun v ty' w' hp hk' => ?_)
  obtain ⟨rfl, rfl⟩ := hp
  show GW κ 7 0 0 (wM r g (upd iM0 14 (-1)) (up3 (up3 (up3 (up3 aM0 13 0 2) 16 0 8) 13 1 2) 16 1 8) (up3L (up3L (up3L (up3L lM0 6 0 275647447) 6 1 9451996) 6 2 40477) 6 3 6491892)) 17 [(0, .int 99), (1, .int 111), (2, .int 115), (3, .int 116), (4, .int 0), (5, .int 0), (6, .int 0)] [.long 70517]
  refine g_iload hk dX12_letters_17 rfl ?_
  refine g_callS (n := 2) hk (m57_X12_appends l D zt g r) (SP.same _) (fun _ h => h) (gi_S (List.mem_cons_of_mem _ (List.mem_append_left _ (List.mem_of_getElem? (i := 0) rfl))) (List.mem_cons_of_mem _ (List.mem_append_left _ (List.mem_of_getElem? (i := 1) rfl))) (List.mem_cons_of_mem _ (List.mem_append_left _ (List.mem_of_getElem? (i := 2) rfl))) (gi_sub (fun w h => (List.mem_cons_of_mem _ (List.mem_append_right _ (List.mem_append_right _ (List.mem_append_right _ (List.mem_append_right _ (List.mem_append_right _ (List.mem_append_left _ h)))))))) zg_m57_X12_appends)) rfl rfl rfl (by decide +kernel) ⟨Nat.le_of_ble_eq_true rfl, Nat.le_of_ble_eq_true rfl⟩ rfl rfl (Nat.le_of_ble_eq_true rfl) ⟨Nat.le_of_ble_eq_true rfl, Nat.le_of_ble_eq_true rfl⟩ dX12_letters_19 (fun v ty' w' hp hk' => ?_)
  obtain ⟨rfl, rfl⟩ := hp
  show GW κ 7 0 0 (wM r g (upd iM0 14 (-1)) (up3 (up3 (up3 (up3 aM0 13 0 2) 16 0 8) 13 1 2) 16 1 8) (up3L (up3L (up3L (up3L lM0 6 0 275647447) 6 1 9451996) 6 2 40477) 6 3 6491892)) 22 [(0, .int 99), (1, .int 111), (2, .int 115), (3, .int 116), (4, .int 0), (5, .int 0), (6, .int 0)] [.long 70517]
  refine g_iload hk dX12_letters_22 rfl ?_
  refine g_callS (n := 2) hk (m57_X12_appends l D zt g r) (SP.same _) (fun _ h => h) (gi_S (List.mem_cons_of_mem _ (List.mem_append_left _ (List.mem_of_getElem? (i := 0) rfl))) (List.mem_cons_of_mem _ (List.mem_append_left _ (List.mem_of_getElem? (i := 1) rfl))) (List.mem_cons_of_mem _ (List.mem_append_left _ (List.mem_of_getElem? (i := 2) rfl))) (gi_sub (fun w h => (List.mem_cons_of_mem _ (List.mem_append_right _ (List.mem_append_right _ (List.mem_append_right _ (List.mem_append_right _ (List.mem_append_right _ (List.mem_append_left _ h)))))))) zg_m57_X12_appends)) rfl rfl rfl (by decide +kernel) ⟨Nat.le_of_ble_eq_true rfl, Nat.le_of_ble_eq_true rfl⟩ rfl rfl (Nat.le_of_ble_eq_true rfl) ⟨Nat.le_of_ble_eq_true rfl, Nat.le_of_ble_eq_true rfl⟩ dX12_letters_24 (fun v ty' w' hp hk' => ?_)
  obtain ⟨rfl, rfl⟩ := hp
  show GW κ 7 0 0 (wM r g (upd iM0 14 (-1)) (up3 (up3 (up3 (up3 aM0 13 0 2) 16 0 8) 13 1 2) 16 1 8) (up3L (up3L (up3L (up3L lM0 6 0 275647447) 6 1 9451996) 6 2 40477) 6 3 6491892)) 27 [(0, .int 99), (1, .int 111), (2, .int 115), (3, .int 116), (4, .int 0), (5, .int 0), (6, .int 0)] [.long 70517]
  refine g_iload hk dX12_letters_27 rfl ?_
  refine g_callS (n := 2) hk (m57_X12_appends l D zt g r) (SP.same _) (fun _ h => h) (gi_S (List.mem_cons_of_mem _ (List.mem_append_left _ (List.mem_of_getElem? (i := 0) rfl))) (List.mem_cons_of_mem _ (List.mem_append_left _ (List.mem_of_getElem? (i := 1) rfl))) (List.mem_cons_of_mem _ (List.mem_append_left _ (List.mem_of_getElem? (i := 2) rfl))) (gi_sub (fun w h => (List.mem_cons_of_mem _ (List.mem_append_right _ (List.mem_append_right _ (List.mem_append_right _ (List.mem_append_right _ (List.mem_append_right _ (List.mem_append_left _ h)))))))) zg_m57_X12_appends)) rfl rfl rfl (by decide +kernel) ⟨Nat.le_of_ble_eq_true rfl, Nat.le_of_ble_eq_true rfl⟩ rfl rfl (Nat.le_of_ble_eq_true rfl) ⟨Nat.le_of_ble_eq_true rfl, Nat.le_of_ble_eq_true rfl⟩ dX12_letters_29 (fun v ty' w' hp hk' => ?_)
  obtain ⟨rfl, rfl⟩ := hp
  show GW κ 7 0 0 (wM r g (upd iM0 14 (-1)) (up3 (up3 (up3 (up3 aM0 13 0 2) 16 0 8) 13 1 2) 16 1 8) (up3L (up3L (up3L (up3L lM0 6 0 275647447) 6 1 9451996) 6 2 40477) 6 3 6491892)) 32 [(0, .int 99), (1, .int 111), (2, .int 115), (3, .int 116), (4, .int 0), (5, .int 0), (6, .int 0)] [.long 70517]
  exact g_lret hk hR ⟨rfl, rfl⟩ dX12_letters_32
def wo_m59_X12_appends : List Cond := [Cond.constantLong RX12 133 (27)]
def wz_m59_X12_appends : List Cond := .code yX12_appends cX12_appends 3 (some .long) :: (wo_m59_X12_appends ++ ([] : List Cond))
theorem zg_m59_X12_appends : ∀ w ∈ wz_m59_X12_appends, goodWord w = true := zg_cons rfl (zg_app (by decide +kernel) zg_nil)
theorem zi_m59_X12_appends : ∀ w ∈ wz_m59_X12_appends, w ∈ lw_tbl := zi_cons zw_1370 (zi_app (zi_cons zw_1371 zi_nil) zi_nil)
set_option maxHeartbeats 4000000 in
set_option maxRecDepth 100000 in
theorem m59_X12_appends (l : Launch) (D : va_G) (zt : Nat × Nat × Nat) (g : Nat → ClassId) (r : Nat → Nat) : GM l D zt (tyM g) yX12_appends wz_m59_X12_appends ({ frames := 0, cells := 0, slots := 0, locals := 0 } : Room) [.long 0, .int 97] (wM r g (upd iM0 14 (-1)) (up3 (up3 (up3 (up3 aM0 13 0 2) 16 0 8) 13 1 2) 16 1 8) (up3L (up3L (up3L (up3L (up3L lM0 6 0 275647447) 6 1 9451996) 6 2 40477) 6 3 6491892) 6 4 70517)) (fun v _ w' => v = some (.long 1) ∧ w' = wM r g (upd iM0 14 (-1)) (up3 (up3 (up3 (up3 aM0 13 0 2) 16 0 8) 13 1 2) 16 1 8) (up3L (up3L (up3L (up3L (up3L lM0 6 0 275647447) 6 1 9451996) 6 2 40477) 6 3 6491892) 6 4 70517)) 0 0 := by
  refine GM.of (cc := cX12_appends) (maxL := 3) (ret := (some .long)) (own := RX12) (lv := [(0, .long 0), (2, .int 97)]) (by decide) rfl rfl (Nat.le_of_ble_eq_true rfl) rfl (fun κ sz hk hR hN => ?_)
  refine g_iload_n hk dX12_appends_0 rfl ?_
  refine g_if_ne (tgt := 8) (a := 97) hk dX12_appends_1 (by decide) rfl (fun _ => ?_) (fun z9 => absurd (show (97 : Int) ≠ (0 : Int) from by decide) z9)
  refine g_ldc2 (v := 27) hk (List.mem_cons_of_mem _ (List.mem_append_left _ (List.mem_of_getElem? (i := 0) rfl))) dX12_appends_8 ?_
  refine g_lload_n hk dX12_appends_11 rfl ?_
  refine g_lmul hk dX12_appends_12 ?_
  refine g_norml (v := 0) (by decide) ?_
  refine g_iload_n hk dX12_appends_13 rfl ?_
  refine g_bipush (v := 97) hk dX12_appends_14 (by decide) ?_
  refine g_isub hk dX12_appends_16 ?_
  refine g_norm (v := 0) (by decide) ?_
  refine g_iconst (v := 1) hk dX12_appends_17 (by decide) ?_
  refine g_iadd hk dX12_appends_18 ?_
  refine g_norm (v := 1) (by decide) ?_
  refine g_i2l (v := 1) hk dX12_appends_19 (by decide) ?_
  refine g_ladd hk dX12_appends_20 ?_
  refine g_norml (v := 1) (by decide) ?_
  exact g_lret hk hR ⟨rfl, rfl⟩ dX12_appends_21
def wo_m60_X12_appends : List Cond := [Cond.constantLong RX12 133 (27)]
def wz_m60_X12_appends : List Cond := .code yX12_appends cX12_appends 3 (some .long) :: (wo_m60_X12_appends ++ ([] : List Cond))
theorem zg_m60_X12_appends : ∀ w ∈ wz_m60_X12_appends, goodWord w = true := zg_cons rfl (zg_app (by decide +kernel) zg_nil)
theorem zi_m60_X12_appends : ∀ w ∈ wz_m60_X12_appends, w ∈ lw_tbl := zi_cons zw_1370 (zi_app (zi_cons zw_1371 zi_nil) zi_nil)
set_option maxHeartbeats 4000000 in
set_option maxRecDepth 100000 in
theorem m60_X12_appends (l : Launch) (D : va_G) (zt : Nat × Nat × Nat) (g : Nat → ClassId) (r : Nat → Nat) : GM l D zt (tyM g) yX12_appends wz_m60_X12_appends ({ frames := 0, cells := 0, slots := 0, locals := 0 } : Room) [.long 1, .int 112] (wM r g (upd iM0 14 (-1)) (up3 (up3 (up3 (up3 aM0 13 0 2) 16 0 8) 13 1 2) 16 1 8) (up3L (up3L (up3L (up3L (up3L lM0 6 0 275647447) 6 1 9451996) 6 2 40477) 6 3 6491892) 6 4 70517)) (fun v _ w' => v = some (.long 43) ∧ w' = wM r g (upd iM0 14 (-1)) (up3 (up3 (up3 (up3 aM0 13 0 2) 16 0 8) 13 1 2) 16 1 8) (up3L (up3L (up3L (up3L (up3L lM0 6 0 275647447) 6 1 9451996) 6 2 40477) 6 3 6491892) 6 4 70517)) 0 0 := by
  refine GM.of (cc := cX12_appends) (maxL := 3) (ret := (some .long)) (own := RX12) (lv := [(0, .long 1), (2, .int 112)]) (by decide) rfl rfl (Nat.le_of_ble_eq_true rfl) rfl (fun κ sz hk hR hN => ?_)
  refine g_iload_n hk dX12_appends_0 rfl ?_
  refine g_if_ne (tgt := 8) (a := 112) hk dX12_appends_1 (by decide) rfl (fun _ => ?_) (fun z9 => absurd (show (112 : Int) ≠ (0 : Int) from by decide) z9)
  refine g_ldc2 (v := 27) hk (List.mem_cons_of_mem _ (List.mem_append_left _ (List.mem_of_getElem? (i := 0) rfl))) dX12_appends_8 ?_
  refine g_lload_n hk dX12_appends_11 rfl ?_
  refine g_lmul hk dX12_appends_12 ?_
  refine g_norml (v := 27) (by decide) ?_
  refine g_iload_n hk dX12_appends_13 rfl ?_
  refine g_bipush (v := 97) hk dX12_appends_14 (by decide) ?_
  refine g_isub hk dX12_appends_16 ?_
  refine g_norm (v := 15) (by decide) ?_
  refine g_iconst (v := 1) hk dX12_appends_17 (by decide) ?_
  refine g_iadd hk dX12_appends_18 ?_
  refine g_norm (v := 16) (by decide) ?_
  refine g_i2l (v := 16) hk dX12_appends_19 (by decide) ?_
  refine g_ladd hk dX12_appends_20 ?_
  refine g_norml (v := 43) (by decide) ?_
  exact g_lret hk hR ⟨rfl, rfl⟩ dX12_appends_21
def wo_m61_X12_appends : List Cond := [Cond.constantLong RX12 133 (27)]
def wz_m61_X12_appends : List Cond := .code yX12_appends cX12_appends 3 (some .long) :: (wo_m61_X12_appends ++ ([] : List Cond))
theorem zg_m61_X12_appends : ∀ w ∈ wz_m61_X12_appends, goodWord w = true := zg_cons rfl (zg_app (by decide +kernel) zg_nil)
theorem zi_m61_X12_appends : ∀ w ∈ wz_m61_X12_appends, w ∈ lw_tbl := zi_cons zw_1370 (zi_app (zi_cons zw_1371 zi_nil) zi_nil)
set_option maxHeartbeats 4000000 in
set_option maxRecDepth 100000 in
theorem m61_X12_appends (l : Launch) (D : va_G) (zt : Nat × Nat × Nat) (g : Nat → ClassId) (r : Nat → Nat) : GM l D zt (tyM g) yX12_appends wz_m61_X12_appends ({ frames := 0, cells := 0, slots := 0, locals := 0 } : Room) [.long 43, .int 97] (wM r g (upd iM0 14 (-1)) (up3 (up3 (up3 (up3 aM0 13 0 2) 16 0 8) 13 1 2) 16 1 8) (up3L (up3L (up3L (up3L (up3L lM0 6 0 275647447) 6 1 9451996) 6 2 40477) 6 3 6491892) 6 4 70517)) (fun v _ w' => v = some (.long 1162) ∧ w' = wM r g (upd iM0 14 (-1)) (up3 (up3 (up3 (up3 aM0 13 0 2) 16 0 8) 13 1 2) 16 1 8) (up3L (up3L (up3L (up3L (up3L lM0 6 0 275647447) 6 1 9451996) 6 2 40477) 6 3 6491892) 6 4 70517)) 0 0 := by
  refine GM.of (cc := cX12_appends) (maxL := 3) (ret := (some .long)) (own := RX12) (lv := [(0, .long 43), (2, .int 97)]) (by decide) rfl rfl (Nat.le_of_ble_eq_true rfl) rfl (fun κ sz hk hR hN => ?_)
  refine g_iload_n hk dX12_appends_0 rfl ?_
  refine g_if_ne (tgt := 8) (a := 97) hk dX12_appends_1 (by decide) rfl (fun _ => ?_) (fun z9 => absurd (show (97 : Int) ≠ (0 : Int) from by decide) z9)
  refine g_ldc2 (v := 27) hk (List.mem_cons_of_mem _ (List.mem_append_left _ (List.mem_of_getElem? (i := 0) rfl))) dX12_appends_8 ?_
  refine g_lload_n hk dX12_appends_11 rfl ?_
  refine g_lmul hk dX12_appends_12 ?_
  refine g_norml (v := 1161) (by decide) ?_
  refine g_iload_n hk dX12_appends_13 rfl ?_
  refine g_bipush (v := 97) hk dX12_appends_14 (by decide) ?_
  refine g_isub hk dX12_appends_16 ?_
  refine g_norm (v := 0) (by decide) ?_
  refine g_iconst (v := 1) hk dX12_appends_17 (by decide) ?_
  refine g_iadd hk dX12_appends_18 ?_
  refine g_norm (v := 1) (by decide) ?_
  refine g_i2l (v := 1) hk dX12_appends_19 (by decide) ?_
  refine g_ladd hk dX12_appends_20 ?_
  refine g_norml (v := 1162) (by decide) ?_
  exact g_lret hk hR ⟨rfl, rfl⟩ dX12_appends_21
def wo_m62_X12_appends : List Cond := [Cond.constantLong RX12 133 (27)]
def wz_m62_X12_appends : List Cond := .code yX12_appends cX12_appends 3 (some .long) :: (wo_m62_X12_appends ++ ([] : List Cond))
theorem zg_m62_X12_appends : ∀ w ∈ wz_m62_X12_appends, goodWord w = true := zg_cons rfl (zg_app (by decide +kernel) zg_nil)
theorem zi_m62_X12_appends : ∀ w ∈ wz_m62_X12_appends, w ∈ lw_tbl := zi_cons zw_1370 (zi_app (zi_cons zw_1371 zi_nil) zi_nil)
set_option maxHeartbeats 4000000 in
set_option maxRecDepth 100000 in
theorem m62_X12_appends (l : Launch) (D : va_G) (zt : Nat × Nat × Nat) (g : Nat → ClassId) (r : Nat → Nat) : GM l D zt (tyM g) yX12_appends wz_m62_X12_appends ({ frames := 0, cells := 0, slots := 0, locals := 0 } : Room) [.long 1162, .int 114] (wM r g (upd iM0 14 (-1)) (up3 (up3 (up3 (up3 aM0 13 0 2) 16 0 8) 13 1 2) 16 1 8) (up3L (up3L (up3L (up3L (up3L lM0 6 0 275647447) 6 1 9451996) 6 2 40477) 6 3 6491892) 6 4 70517)) (fun v _ w' => v = some (.long 31392) ∧ w' = wM r g (upd iM0 14 (-1)) (up3 (up3 (up3 (up3 aM0 13 0 2) 16 0 8) 13 1 2) 16 1 8) (up3L (up3L (up3L (up3L (up3L lM0 6 0 275647447) 6 1 9451996) 6 2 40477) 6 3 6491892) 6 4 70517)) 0 0 := by
  refine GM.of (cc := cX12_appends) (maxL := 3) (ret := (some .long)) (own := RX12) (lv := [(0, .long 1162), (2, .int 114)]) (by decide) rfl rfl (Nat.le_of_ble_eq_true rfl) rfl (fun κ sz hk hR hN => ?_)
  refine g_iload_n hk dX12_appends_0 rfl ?_
  refine g_if_ne (tgt := 8) (a := 114) hk dX12_appends_1 (by decide) rfl (fun _ => ?_) (fun z9 => absurd (show (114 : Int) ≠ (0 : Int) from by decide) z9)
  refine g_ldc2 (v := 27) hk (List.mem_cons_of_mem _ (List.mem_append_left _ (List.mem_of_getElem? (i := 0) rfl))) dX12_appends_8 ?_
  refine g_lload_n hk dX12_appends_11 rfl ?_
  refine g_lmul hk dX12_appends_12 ?_
  refine g_norml (v := 31374) (by decide) ?_
  refine g_iload_n hk dX12_appends_13 rfl ?_
  refine g_bipush (v := 97) hk dX12_appends_14 (by decide) ?_
  refine g_isub hk dX12_appends_16 ?_
  refine g_norm (v := 17) (by decide) ?_
  refine g_iconst (v := 1) hk dX12_appends_17 (by decide) ?_
  refine g_iadd hk dX12_appends_18 ?_
  refine g_norm (v := 18) (by decide) ?_
  refine g_i2l (v := 18) hk dX12_appends_19 (by decide) ?_
  refine g_ladd hk dX12_appends_20 ?_
  refine g_norml (v := 31392) (by decide) ?_
  exact g_lret hk hR ⟨rfl, rfl⟩ dX12_appends_21
def wo_m63_X12_appends : List Cond := [Cond.constantLong RX12 133 (27)]
def wz_m63_X12_appends : List Cond := .code yX12_appends cX12_appends 3 (some .long) :: (wo_m63_X12_appends ++ ([] : List Cond))
theorem zg_m63_X12_appends : ∀ w ∈ wz_m63_X12_appends, goodWord w = true := zg_cons rfl (zg_app (by decide +kernel) zg_nil)
theorem zi_m63_X12_appends : ∀ w ∈ wz_m63_X12_appends, w ∈ lw_tbl := zi_cons zw_1370 (zi_app (zi_cons zw_1371 zi_nil) zi_nil)
set_option maxHeartbeats 4000000 in
set_option maxRecDepth 100000 in
theorem m63_X12_appends (l : Launch) (D : va_G) (zt : Nat × Nat × Nat) (g : Nat → ClassId) (r : Nat → Nat) : GM l D zt (tyM g) yX12_appends wz_m63_X12_appends ({ frames := 0, cells := 0, slots := 0, locals := 0 } : Room) [.long 31392, .int 116] (wM r g (upd iM0 14 (-1)) (up3 (up3 (up3 (up3 aM0 13 0 2) 16 0 8) 13 1 2) 16 1 8) (up3L (up3L (up3L (up3L (up3L lM0 6 0 275647447) 6 1 9451996) 6 2 40477) 6 3 6491892) 6 4 70517)) (fun v _ w' => v = some (.long 847604) ∧ w' = wM r g (upd iM0 14 (-1)) (up3 (up3 (up3 (up3 aM0 13 0 2) 16 0 8) 13 1 2) 16 1 8) (up3L (up3L (up3L (up3L (up3L lM0 6 0 275647447) 6 1 9451996) 6 2 40477) 6 3 6491892) 6 4 70517)) 0 0 := by
  refine GM.of (cc := cX12_appends) (maxL := 3) (ret := (some .long)) (own := RX12) (lv := [(0, .long 31392), (2, .int 116)]) (by decide) rfl rfl (Nat.le_of_ble_eq_true rfl) rfl (fun κ sz hk hR hN => ?_)
  refine g_iload_n hk dX12_appends_0 rfl ?_
  refine g_if_ne (tgt := 8) (a := 116) hk dX12_appends_1 (by decide) rfl (fun _ => ?_) (fun z9 => absurd (show (116 : Int) ≠ (0 : Int) from by decide) z9)
  refine g_ldc2 (v := 27) hk (List.mem_cons_of_mem _ (List.mem_append_left _ (List.mem_of_getElem? (i := 0) rfl))) dX12_appends_8 ?_
  refine g_lload_n hk dX12_appends_11 rfl ?_
  refine g_lmul hk dX12_appends_12 ?_
  refine g_norml (v := 847584) (by decide) ?_
  refine g_iload_n hk dX12_appends_13 rfl ?_
  refine g_bipush (v := 97) hk dX12_appends_14 (by decide) ?_
  refine g_isub hk dX12_appends_16 ?_
  refine g_norm (v := 19) (by decide) ?_
  refine g_iconst (v := 1) hk dX12_appends_17 (by decide) ?_
  refine g_iadd hk dX12_appends_18 ?_
  refine g_norm (v := 20) (by decide) ?_
  refine g_i2l (v := 20) hk dX12_appends_19 (by decide) ?_
  refine g_ladd hk dX12_appends_20 ?_
  refine g_norml (v := 847604) (by decide) ?_
  exact g_lret hk hR ⟨rfl, rfl⟩ dX12_appends_21
def wo_m64_X12_appends : List Cond := []
def wz_m64_X12_appends : List Cond := .code yX12_appends cX12_appends 3 (some .long) :: (wo_m64_X12_appends ++ ([] : List Cond))
theorem zg_m64_X12_appends : ∀ w ∈ wz_m64_X12_appends, goodWord w = true := zg_cons rfl (zg_app (by decide +kernel) zg_nil)
theorem zi_m64_X12_appends : ∀ w ∈ wz_m64_X12_appends, w ∈ lw_tbl := zi_cons zw_1370 (zi_app zi_nil zi_nil)
set_option maxHeartbeats 4000000 in
set_option maxRecDepth 100000 in
theorem m64_X12_appends (l : Launch) (D : va_G) (zt : Nat × Nat × Nat) (g : Nat → ClassId) (r : Nat → Nat) : GM l D zt (tyM g) yX12_appends wz_m64_X12_appends ({ frames := 0, cells := 0, slots := 0, locals := 0 } : Room) [.long 847604, .int 0] (wM r g (upd iM0 14 (-1)) (up3 (up3 (up3 (up3 aM0 13 0 2) 16 0 8) 13 1 2) 16 1 8) (up3L (up3L (up3L (up3L (up3L lM0 6 0 275647447) 6 1 9451996) 6 2 40477) 6 3 6491892) 6 4 70517)) (fun v _ w' => v = some (.long 847604) ∧ w' = wM r g (upd iM0 14 (-1)) (up3 (up3 (up3 (up3 aM0 13 0 2) 16 0 8) 13 1 2) 16 1 8) (up3L (up3L (up3L (up3L (up3L lM0 6 0 275647447) 6 1 9451996) 6 2 40477) 6 3 6491892) 6 4 70517)) 0 0 := by
  refine GM.of (cc := cX12_appends) (maxL := 3) (ret := (some .long)) (own := RX12) (lv := [(0, .long 847604), (2, .int 0)]) (by decide) rfl rfl (Nat.le_of_ble_eq_true rfl) rfl (fun κ sz hk hR hN => ?_)
  refine g_iload_n hk dX12_appends_0 rfl ?_
  refine g_if_ne (tgt := 8) (a := 0) hk dX12_appends_1 (by decide) rfl (fun z9 => absurd z9 (show ¬ ((0 : Int) ≠ (0 : Int)) from by decide)) (fun _ => ?_)
  refine g_lload_n hk dX12_appends_4 rfl ?_
  refine g_goto (tgt := 21) hk dX12_appends_5 (by decide) ?_
  exact g_lret hk hR ⟨rfl, rfl⟩ dX12_appends_21
def wo_m58_X12_letters : List Cond := [Cond.methodLink RX12 135 yX12_appends, Cond.static yX12_appends, Cond.initialized RX12]
def wz_m58_X12_letters : List Cond := .code yX12_letters cX12_letters 7 (some .long) :: (wo_m58_X12_letters ++ (wz_m59_X12_appends ++ (wz_m60_X12_appends ++ (wz_m61_X12_appends ++ (wz_m62_X12_appends ++ (wz_m63_X12_appends ++ (wz_m64_X12_appends ++ ([] : List Cond))))))))
theorem zg_m58_X12_letters : ∀ w ∈ wz_m58_X12_letters, goodWord w = true := zg_cons rfl (zg_app (by decide +kernel) (zg_app zg_m59_X12_appends (zg_app zg_m60_X12_appends (zg_app zg_m61_X12_appends (zg_app zg_m62_X12_appends (zg_app zg_m63_X12_appends (zg_app zg_m64_X12_appends zg_nil)))))))
theorem zi_m58_X12_letters : ∀ w ∈ wz_m58_X12_letters, w ∈ lw_tbl := zi_cons zw_1367 (zi_app (zi_cons zw_1368 (zi_cons zw_1369 (zi_cons zw_115 zi_nil))) (zi_app zi_m59_X12_appends (zi_app zi_m60_X12_appends (zi_app zi_m61_X12_appends (zi_app zi_m62_X12_appends (zi_app zi_m63_X12_appends (zi_app zi_m64_X12_appends zi_nil)))))))
set_option maxHeartbeats 4000000 in
set_option maxRecDepth 100000 in
theorem m58_X12_letters (l : Launch) (D : va_G) (zt : Nat × Nat × Nat) (g : Nat → ClassId) (r : Nat → Nat) : GM l D zt (tyM g) yX12_letters wz_m58_X12_letters ({ frames := 1, cells := 0, slots := 0, locals := 22 } : Room) [.int 97, .int 112, .int 97, .int 114, .int 116, .int 0, .int 0] (wM r g (upd iM0 14 (-1)) (up3 (up3 (up3 (up3 aM0 13 0 2) 16 0 8) 13 1 2) 16 1 8) (up3L (up3L (up3L (up3L (up3L lM0 6 0 275647447) 6 1 9451996) 6 2 40477) 6 3 6491892) 6 4 70517)) (fun v _ w' => v = some (.long 847604) ∧ w' = wM r g (upd iM0 14 (-1)) (up3 (up3 (up3 (up3 aM0 13 0 2) 16 0 8) 13 1 2) 16 1 8) (up3L (up3L (up3L (up3L (up3L lM0 6 0 275647447) 6 1 9451996) 6 2 40477) 6 3 6491892) 6 4 70517)) 0 0 := by
  refine GM.of (cc := cX12_letters) (maxL := 7) (ret := (some .long)) (own := RX12) (lv := [(0, .int 97), (1, .int 112), (2, .int 97), (3, .int 114), (4, .int 116), (5, .int 0), (6, .int 0)]) (by decide) rfl rfl (Nat.le_of_ble_eq_true rfl) rfl (fun κ sz hk hR hN => ?_)
  refine g_lconst (v := 0) hk dX12_letters_0 (by decide) ?_
  refine g_iload_n hk dX12_letters_1 rfl ?_
  refine g_callS (n := 2) hk (m59_X12_appends l D zt g r) (SP.same _) (fun _ h => h) (gi_S (List.mem_cons_of_mem _ (List.mem_append_left _ (List.mem_of_getElem? (i := 0) rfl))) (List.mem_cons_of_mem _ (List.mem_append_left _ (List.mem_of_getElem? (i := 1) rfl))) (List.mem_cons_of_mem _ (List.mem_append_left _ (List.mem_of_getElem? (i := 2) rfl))) (gi_sub (fun w h => (List.mem_cons_of_mem _ (List.mem_append_right _ (List.mem_append_left _ h)))) zg_m59_X12_appends)) rfl rfl rfl (by decide +kernel) ⟨Nat.le_of_ble_eq_true rfl, Nat.le_of_ble_eq_true rfl⟩ rfl rfl (Nat.le_of_ble_eq_true rfl) ⟨Nat.le_of_ble_eq_true rfl, Nat.le_of_ble_eq_true rfl⟩ dX12_letters_2 (fun v ty' w' hp hk' => ?_)
  obtain ⟨rfl, rfl⟩ := hp
  show GW κ 7 0 0 (wM r g (upd iM0 14 (-1)) (up3 (up3 (up3 (up3 aM0 13 0 2) 16 0 8) 13 1 2) 16 1 8) (up3L (up3L (up3L (up3L (up3L lM0 6 0 275647447) 6 1 9451996) 6 2 40477) 6 3 6491892) 6 4 70517)) 5 [(0, .int 97), (1, .int 112), (2, .int 97), (3, .int 114), (4, .int 116), (5, .int 0), (6, .int 0)] [.long 1]
  refine g_iload_n hk dX12_letters_5 rfl ?_
  refine g_callS (n := 2) hk (m60_X12_appends l D zt g r) (SP.same _) (fun _ h => h) (gi_S (List.mem_cons_of_mem _ (List.mem_append_left _ (List.mem_of_getElem? (i := 0) rfl))) (List.mem_cons_of_mem _ (List.mem_append_left _ (List.mem_of_getElem? (i := 1) rfl))) (List.mem_cons_of_mem _ (List.mem_append_left _ (List.mem_of_getElem? (i := 2) rfl))) (gi_sub (fun w h => (List.mem_cons_of_mem _ (List.mem_append_right _ (List.mem_append_right _ (List.mem_append_left _ h))))) zg_m60_X12_appends)) rfl rfl rfl (by decide +kernel) ⟨Nat.le_of_ble_eq_true rfl, Nat.le_of_ble_eq_true rfl⟩ rfl rfl (Nat.le_of_ble_eq_true rfl) ⟨Nat.le_of_ble_eq_true rfl, Nat.le_of_ble_eq_true rfl⟩ dX12_letters_6 (fun v ty' w' hp hk' => ?_)
  obtain ⟨rfl, rfl⟩ := hp
  show GW κ 7 0 0 (wM r g (upd iM0 14 (-1)) (up3 (up3 (up3 (up3 aM0 13 0 2) 16 0 8) 13 1 2) 16 1 8) (up3L (up3L (up3L (up3L (up3L lM0 6 0 275647447) 6 1 9451996) 6 2 40477) 6 3 6491892) 6 4 70517)) 9 [(0, .int 97), (1, .int 112), (2, .int 97), (3, .int 114), (4, .int 116), (5, .int 0), (6, .int 0)] [.long 43]
  refine g_iload_n hk dX12_letters_9 rfl ?_
  refine g_callS (n := 2) hk (m61_X12_appends l D zt g r) (SP.same _) (fun _ h => h) (gi_S (List.mem_cons_of_mem _ (List.mem_append_left _ (List.mem_of_getElem? (i := 0) rfl))) (List.mem_cons_of_mem _ (List.mem_append_left _ (List.mem_of_getElem? (i := 1) rfl))) (List.mem_cons_of_mem _ (List.mem_append_left _ (List.mem_of_getElem? (i := 2) rfl))) (gi_sub (fun w h => (List.mem_cons_of_mem _ (List.mem_append_right _ (List.mem_append_right _ (List.mem_append_right _ (List.mem_append_left _ h)))))) zg_m61_X12_appends)) rfl rfl rfl (by decide +kernel) ⟨Nat.le_of_ble_eq_true rfl, Nat.le_of_ble_eq_true rfl⟩ rfl rfl (Nat.le_of_ble_eq_true rfl) ⟨Nat.le_of_ble_eq_true rfl, Nat.le_of_ble_eq_true rfl⟩ dX12_letters_10 (fun v ty' w' hp hk' => ?_)
  obtain ⟨rfl, rfl⟩ := hp
  show GW κ 7 0 0 (wM r g (upd iM0 14 (-1)) (up3 (up3 (up3 (up3 aM0 13 0 2) 16 0 8) 13 1 2) 16 1 8) (up3L (up3L (up3L (up3L (up3L lM0 6 0 275647447) 6 1 9451996) 6 2 40477) 6 3 6491892) 6 4 70517)) 13 [(0, .int 97), (1, .int 112), (2, .int 97), (3, .int 114), (4, .int 116), (5, .int 0), (6, .int 0)] [.long 1162]
  refine g_iload_n hk dX12_letters_13 rfl ?_
  refine g_callS (n := 2) hk (m62_X12_appends l D zt g r) (SP.same _) (fun _ h => h) (gi_S (List.mem_cons_of_mem _ (List.mem_append_left _ (List.mem_of_getElem? (i := 0) rfl))) (List.mem_cons_of_mem _ (List.mem_append_left _ (List.mem_of_getElem? (i := 1) rfl))) (List.mem_cons_of_mem _ (List.mem_append_left _ (List.mem_of_getElem? (i := 2) rfl))) (gi_sub (fun w h => (List.mem_cons_of_mem _ (List.mem_append_right _ (List.mem_append_right _ (List.mem_append_right _ (List.mem_append_right _ (List.mem_append_left _ h))))))) zg_m62_X12_appends)) rfl rfl rfl (by decide +kernel) ⟨Nat.le_of_ble_eq_true rfl, Nat.le_of_ble_eq_true rfl⟩ rfl rfl (Nat.le_of_ble_eq_true rfl) ⟨Nat.le_of_ble_eq_true rfl, Nat.le_of_ble_eq_true rfl⟩ dX12_letters_14 (fun v ty' w' hp hk' => ?_)
  obtain ⟨rfl, rfl⟩ := hp
  show GW κ 7 0 0 (wM r g (upd iM0 14 (-1)) (up3 (up3 (up3 (up3 aM0 13 0 2) 16 0 8) 13 1 2) 16 1 8) (up3L (up3L (up3L (up3L (up3L lM0 6 0 275647447) 6 1 9451996) 6 2 40477) 6 3 6491892) 6 4 70517)) 17 [(0, .int 97), (1, .int 112), (2, .int 97), (3, .int 114), (4, .int 116), (5, .int 0), (6, .int 0)] [.long 31392]
  refine g_iload hk dX12_letters_17 rfl ?_
  refine g_callS (n := 2) hk (m63_X12_appends l D zt g r) (SP.same _) (fun _ h => h) (gi_S (List.mem_cons_of_mem _ (List.mem_append_left _ (List.mem_of_getElem? (i := 0) rfl))) (List.mem_cons_of_mem _ (List.mem_append_left _ (List.mem_of_getElem? (i := 1) rfl))) (List.mem_cons_of_mem _ (List.mem_append_left _ (List.mem_of_getElem? (i := 2) rfl))) (gi_sub (fun w h => (List.mem_cons_of_mem _ (List.mem_append_right _ (List.mem_append_right _ (List.mem_append_right _ (List.mem_append_right _ (List.mem_append_right _ (List.mem_append_left _ h)))))))) zg_m63_X12_appends)) rfl rfl rfl (by decide +kernel) ⟨Nat.le_of_ble_eq_true rfl, Nat.le_of_ble_eq_true rfl⟩ rfl rfl (Nat.le_of_ble_eq_true rfl) ⟨Nat.le_of_ble_eq_true rfl, Nat.le_of_ble_eq_true rfl⟩ dX12_letters_19 (fun v ty' w' hp hk' => ?_)
  obtain ⟨rfl, rfl⟩ := hp
  show GW κ 7 0 0 (wM r g (upd iM0 14 (-1)) (up3 (up3 (up3 (up3 aM0 13 0 2) 16 0 8) 13 1 2) 16 1 8) (up3L (up3L (up3L (up3L (up3L lM0 6 0 275647447) 6 1 9451996) 6 2 40477) 6 3 6491892) 6 4 70517)) 22 [(0, .int 97), (1, .int 112), (2, .int 97), (3, .int 114), (4, .int 116), (5, .int 0), (6, .int 0)] [.long 847604]
  refine g_iload hk dX12_letters_22 rfl ?_
  refine g_callS (n := 2) hk (m64_X12_appends l D zt g r) (SP.same _) (fun _ h => h) (gi_S (List.mem_cons_of_mem _ (List.mem_append_left _ (List.mem_of_getElem? (i := 0) rfl))) (List.mem_cons_of_mem _ (List.mem_append_left _ (List.mem_of_getElem? (i := 1) rfl))) (List.mem_cons_of_mem _ (List.mem_append_left _ (List.mem_of_getElem? (i := 2) rfl))) (gi_sub (fun w h => (List.mem_cons_of_mem _ (List.mem_append_right _ (List.mem_append_right _ (List.mem_append_right _ (List.mem_append_right _ (List.mem_append_right _ (List.mem_append_right _ (List.mem_append_left _ h))))))))) zg_m64_X12_appends)) rfl rfl rfl (by decide +kernel) ⟨Nat.le_of_ble_eq_true rfl, Nat.le_of_ble_eq_true rfl⟩ rfl rfl (Nat.le_of_ble_eq_true rfl) ⟨Nat.le_of_ble_eq_true rfl, Nat.le_of_ble_eq_true rfl⟩ dX12_letters_24 (fun v ty' w' hp hk' => ?_)
  obtain ⟨rfl, rfl⟩ := hp
  show GW κ 7 0 0 (wM r g (upd iM0 14 (-1)) (up3 (up3 (up3 (up3 aM0 13 0 2) 16 0 8) 13 1 2) 16 1 8) (up3L (up3L (up3L (up3L (up3L lM0 6 0 275647447) 6 1 9451996) 6 2 40477) 6 3 6491892) 6 4 70517)) 27 [(0, .int 97), (1, .int 112), (2, .int 97), (3, .int 114), (4, .int 116), (5, .int 0), (6, .int 0)] [.long 847604]
  refine g_iload hk dX12_letters_27 rfl ?_
  refine g_callS (n := 2) hk (m64_X12_appends l D zt g r) (SP.same _) (fun _ h => h) (gi_S (List.mem_cons_of_mem _ (List.mem_append_left _ (List.mem_of_getElem? (i := 0) rfl))) (List.mem_cons_of_mem _ (List.mem_append_left _ (List.mem_of_getElem? (i := 1) rfl))) (List.mem_cons_of_mem _ (List.mem_append_left _ (List.mem_of_getElem? (i := 2) rfl))) (gi_sub (fun w h => (List.mem_cons_of_mem _ (List.mem_append_right _ (List.mem_append_right _ (List.mem_append_right _ (List.mem_append_right _ (List.mem_append_right _ (List.mem_append_right _ (List.mem_append_left _ h))))))))) zg_m64_X12_appends)) rfl rfl rfl (by decide +kernel) ⟨Nat.le_of_ble_eq_true rfl, Nat.le_of_ble_eq_true rfl⟩ rfl rfl (Nat.le_of_ble_eq_true rfl) ⟨Nat.le_of_ble_eq_true rfl, Nat.le_of_ble_eq_true rfl⟩ dX12_letters_29 (fun v ty' w' hp hk' => ?_)
  obtain ⟨rfl, rfl⟩ := hp
  show GW κ 7 0 0 (wM r g (upd iM0 14 (-1)) (up3 (up3 (up3 (up3 aM0 13 0 2) 16 0 8) 13 1 2) 16 1 8) (up3L (up3L (up3L (up3L (up3L lM0 6 0 275647447) 6 1 9451996) 6 2 40477) 6 3 6491892) 6 4 70517)) 32 [(0, .int 97), (1, .int 112), (2, .int 97), (3, .int 114), (4, .int 116), (5, .int 0), (6, .int 0)] [.long 847604]
  exact g_lret hk hR ⟨rfl, rfl⟩ dX12_letters_32
def wo_m66_X12_appends : List Cond := [Cond.constantLong RX12 133 (27)]
def wz_m66_X12_appends : List Cond := .code yX12_appends cX12_appends 3 (some .long) :: (wo_m66_X12_appends ++ ([] : List Cond))
theorem zg_m66_X12_appends : ∀ w ∈ wz_m66_X12_appends, goodWord w = true := zg_cons rfl (zg_app (by decide +kernel) zg_nil)
theorem zi_m66_X12_appends : ∀ w ∈ wz_m66_X12_appends, w ∈ lw_tbl := zi_cons zw_1370 (zi_app (zi_cons zw_1371 zi_nil) zi_nil)
set_option maxHeartbeats 4000000 in
set_option maxRecDepth 100000 in
theorem m66_X12_appends (l : Launch) (D : va_G) (zt : Nat × Nat × Nat) (g : Nat → ClassId) (r : Nat → Nat) : GM l D zt (tyM g) yX12_appends wz_m66_X12_appends ({ frames := 0, cells := 0, slots := 0, locals := 0 } : Room) [.long 0, .int 103] (wM r g (upd iM0 14 (-1)) (up3 (up3 (up3 (up3 aM0 13 0 2) 16 0 8) 13 1 2) 16 1 8) (up3L (up3L (up3L (up3L (up3L (up3L lM0 6 0 275647447) 6 1 9451996) 6 2 40477) 6 3 6491892) 6 4 70517) 6 5 847604)) (fun v _ w' => v = some (.long 7) ∧ w' = wM r g (upd iM0 14 (-1)) (up3 (up3 (up3 (up3 aM0 13 0 2) 16 0 8) 13 1 2) 16 1 8) (up3L (up3L (up3L (up3L (up3L (up3L lM0 6 0 275647447) 6 1 9451996) 6 2 40477) 6 3 6491892) 6 4 70517) 6 5 847604)) 0 0 := by
  refine GM.of (cc := cX12_appends) (maxL := 3) (ret := (some .long)) (own := RX12) (lv := [(0, .long 0), (2, .int 103)]) (by decide) rfl rfl (Nat.le_of_ble_eq_true rfl) rfl (fun κ sz hk hR hN => ?_)
  refine g_iload_n hk dX12_appends_0 rfl ?_
  refine g_if_ne (tgt := 8) (a := 103) hk dX12_appends_1 (by decide) rfl (fun _ => ?_) (fun z9 => absurd (show (103 : Int) ≠ (0 : Int) from by decide) z9)
  refine g_ldc2 (v := 27) hk (List.mem_cons_of_mem _ (List.mem_append_left _ (List.mem_of_getElem? (i := 0) rfl))) dX12_appends_8 ?_
  refine g_lload_n hk dX12_appends_11 rfl ?_
  refine g_lmul hk dX12_appends_12 ?_
  refine g_norml (v := 0) (by decide) ?_
  refine g_iload_n hk dX12_appends_13 rfl ?_
  refine g_bipush (v := 97) hk dX12_appends_14 (by decide) ?_
  refine g_isub hk dX12_appends_16 ?_
  refine g_norm (v := 6) (by decide) ?_
  refine g_iconst (v := 1) hk dX12_appends_17 (by decide) ?_
  refine g_iadd hk dX12_appends_18 ?_
  refine g_norm (v := 7) (by decide) ?_
  refine g_i2l (v := 7) hk dX12_appends_19 (by decide) ?_
  refine g_ladd hk dX12_appends_20 ?_
  refine g_norml (v := 7) (by decide) ?_
  exact g_lret hk hR ⟨rfl, rfl⟩ dX12_appends_21
def wo_m67_X12_appends : List Cond := [Cond.constantLong RX12 133 (27)]
def wz_m67_X12_appends : List Cond := .code yX12_appends cX12_appends 3 (some .long) :: (wo_m67_X12_appends ++ ([] : List Cond))
theorem zg_m67_X12_appends : ∀ w ∈ wz_m67_X12_appends, goodWord w = true := zg_cons rfl (zg_app (by decide +kernel) zg_nil)
theorem zi_m67_X12_appends : ∀ w ∈ wz_m67_X12_appends, w ∈ lw_tbl := zi_cons zw_1370 (zi_app (zi_cons zw_1371 zi_nil) zi_nil)
set_option maxHeartbeats 4000000 in
set_option maxRecDepth 100000 in
theorem m67_X12_appends (l : Launch) (D : va_G) (zt : Nat × Nat × Nat) (g : Nat → ClassId) (r : Nat → Nat) : GM l D zt (tyM g) yX12_appends wz_m67_X12_appends ({ frames := 0, cells := 0, slots := 0, locals := 0 } : Room) [.long 7, .int 97] (wM r g (upd iM0 14 (-1)) (up3 (up3 (up3 (up3 aM0 13 0 2) 16 0 8) 13 1 2) 16 1 8) (up3L (up3L (up3L (up3L (up3L (up3L lM0 6 0 275647447) 6 1 9451996) 6 2 40477) 6 3 6491892) 6 4 70517) 6 5 847604)) (fun v _ w' => v = some (.long 190) ∧ w' = wM r g (upd iM0 14 (-1)) (up3 (up3 (up3 (up3 aM0 13 0 2) 16 0 8) 13 1 2) 16 1 8) (up3L (up3L (up3L (up3L (up3L (up3L lM0 6 0 275647447) 6 1 9451996) 6 2 40477) 6 3 6491892) 6 4 70517) 6 5 847604)) 0 0 := by
  refine GM.of (cc := cX12_appends) (maxL := 3) (ret := (some .long)) (own := RX12) (lv := [(0, .long 7), (2, .int 97)]) (by decide) rfl rfl (Nat.le_of_ble_eq_true rfl) rfl (fun κ sz hk hR hN => ?_)
  refine g_iload_n hk dX12_appends_0 rfl ?_
  refine g_if_ne (tgt := 8) (a := 97) hk dX12_appends_1 (by decide) rfl (fun _ => ?_) (fun z9 => absurd (show (97 : Int) ≠ (0 : Int) from by decide) z9)
  refine g_ldc2 (v := 27) hk (List.mem_cons_of_mem _ (List.mem_append_left _ (List.mem_of_getElem? (i := 0) rfl))) dX12_appends_8 ?_
  refine g_lload_n hk dX12_appends_11 rfl ?_
  refine g_lmul hk dX12_appends_12 ?_
  refine g_norml (v := 189) (by decide) ?_
  refine g_iload_n hk dX12_appends_13 rfl ?_
  refine g_bipush (v := 97) hk dX12_appends_14 (by decide) ?_
  refine g_isub hk dX12_appends_16 ?_
  refine g_norm (v := 0) (by decide) ?_
  refine g_iconst (v := 1) hk dX12_appends_17 (by decide) ?_
  refine g_iadd hk dX12_appends_18 ?_
  refine g_norm (v := 1) (by decide) ?_
  refine g_i2l (v := 1) hk dX12_appends_19 (by decide) ?_
  refine g_ladd hk dX12_appends_20 ?_
  refine g_norml (v := 190) (by decide) ?_
  exact g_lret hk hR ⟨rfl, rfl⟩ dX12_appends_21
def wo_m68_X12_appends : List Cond := [Cond.constantLong RX12 133 (27)]
def wz_m68_X12_appends : List Cond := .code yX12_appends cX12_appends 3 (some .long) :: (wo_m68_X12_appends ++ ([] : List Cond))
theorem zg_m68_X12_appends : ∀ w ∈ wz_m68_X12_appends, goodWord w = true := zg_cons rfl (zg_app (by decide +kernel) zg_nil)
theorem zi_m68_X12_appends : ∀ w ∈ wz_m68_X12_appends, w ∈ lw_tbl := zi_cons zw_1370 (zi_app (zi_cons zw_1371 zi_nil) zi_nil)
set_option maxHeartbeats 4000000 in
set_option maxRecDepth 100000 in
theorem m68_X12_appends (l : Launch) (D : va_G) (zt : Nat × Nat × Nat) (g : Nat → ClassId) (r : Nat → Nat) : GM l D zt (tyM g) yX12_appends wz_m68_X12_appends ({ frames := 0, cells := 0, slots := 0, locals := 0 } : Room) [.long 190, .int 112] (wM r g (upd iM0 14 (-1)) (up3 (up3 (up3 (up3 aM0 13 0 2) 16 0 8) 13 1 2) 16 1 8) (up3L (up3L (up3L (up3L (up3L (up3L lM0 6 0 275647447) 6 1 9451996) 6 2 40477) 6 3 6491892) 6 4 70517) 6 5 847604)) (fun v _ w' => v = some (.long 5146) ∧ w' = wM r g (upd iM0 14 (-1)) (up3 (up3 (up3 (up3 aM0 13 0 2) 16 0 8) 13 1 2) 16 1 8) (up3L (up3L (up3L (up3L (up3L (up3L lM0 6 0 275647447) 6 1 9451996) 6 2 40477) 6 3 6491892) 6 4 70517) 6 5 847604)) 0 0 := by
  refine GM.of (cc := cX12_appends) (maxL := 3) (ret := (some .long)) (own := RX12) (lv := [(0, .long 190), (2, .int 112)]) (by decide) rfl rfl (Nat.le_of_ble_eq_true rfl) rfl (fun κ sz hk hR hN => ?_)
  refine g_iload_n hk dX12_appends_0 rfl ?_
  refine g_if_ne (tgt := 8) (a := 112) hk dX12_appends_1 (by decide) rfl (fun _ => ?_) (fun z9 => absurd (show (112 : Int) ≠ (0 : Int) from by decide) z9)
  refine g_ldc2 (v := 27) hk (List.mem_cons_of_mem _ (List.mem_append_left _ (List.mem_of_getElem? (i := 0) rfl))) dX12_appends_8 ?_
  refine g_lload_n hk dX12_appends_11 rfl ?_
  refine g_lmul hk dX12_appends_12 ?_
  refine g_norml (v := 5130) (by decide) ?_
  refine g_iload_n hk dX12_appends_13 rfl ?_
  refine g_bipush (v := 97) hk dX12_appends_14 (by decide) ?_
  refine g_isub hk dX12_appends_16 ?_
  refine g_norm (v := 15) (by decide) ?_
  refine g_iconst (v := 1) hk dX12_appends_17 (by decide) ?_
  refine g_iadd hk dX12_appends_18 ?_
  refine g_norm (v := 16) (by decide) ?_
  refine g_i2l (v := 16) hk dX12_appends_19 (by decide) ?_
  refine g_ladd hk dX12_appends_20 ?_
  refine g_norml (v := 5146) (by decide) ?_
  exact g_lret hk hR ⟨rfl, rfl⟩ dX12_appends_21
def wo_m69_X12_appends : List Cond := []
def wz_m69_X12_appends : List Cond := .code yX12_appends cX12_appends 3 (some .long) :: (wo_m69_X12_appends ++ ([] : List Cond))
theorem zg_m69_X12_appends : ∀ w ∈ wz_m69_X12_appends, goodWord w = true := zg_cons rfl (zg_app (by decide +kernel) zg_nil)
theorem zi_m69_X12_appends : ∀ w ∈ wz_m69_X12_appends, w ∈ lw_tbl := zi_cons zw_1370 (zi_app zi_nil zi_nil)
set_option maxHeartbeats 4000000 in
set_option maxRecDepth 100000 in
theorem m69_X12_appends (l : Launch) (D : va_G) (zt : Nat × Nat × Nat) (g : Nat → ClassId) (r : Nat → Nat) : GM l D zt (tyM g) yX12_appends wz_m69_X12_appends ({ frames := 0, cells := 0, slots := 0, locals := 0 } : Room) [.long 5146, .int 0] (wM r g (upd iM0 14 (-1)) (up3 (up3 (up3 (up3 aM0 13 0 2) 16 0 8) 13 1 2) 16 1 8) (up3L (up3L (up3L (up3L (up3L (up3L lM0 6 0 275647447) 6 1 9451996) 6 2 40477) 6 3 6491892) 6 4 70517) 6 5 847604)) (fun v _ w' => v = some (.long 5146) ∧ w' = wM r g (upd iM0 14 (-1)) (up3 (up3 (up3 (up3 aM0 13 0 2) 16 0 8) 13 1 2) 16 1 8) (up3L (up3L (up3L (up3L (up3L (up3L lM0 6 0 275647447) 6 1 9451996) 6 2 40477) 6 3 6491892) 6 4 70517) 6 5 847604)) 0 0 := by
  refine GM.of (cc := cX12_appends) (maxL := 3) (ret := (some .long)) (own := RX12) (lv := [(0, .long 5146), (2, .int 0)]) (by decide) rfl rfl (Nat.le_of_ble_eq_true rfl) rfl (fun κ sz hk hR hN => ?_)
  refine g_iload_n hk dX12_appends_0 rfl ?_
  refine g_if_ne (tgt := 8) (a := 0) hk dX12_appends_1 (by decide) rfl (fun z9 => absurd z9 (show ¬ ((0 : Int) ≠ (0 : Int)) from by decide)) (fun _ => ?_)
  refine g_lload_n hk dX12_appends_4 rfl ?_
  refine g_goto (tgt := 21) hk dX12_appends_5 (by decide) ?_
  exact g_lret hk hR ⟨rfl, rfl⟩ dX12_appends_21
def wo_m65_X12_letters : List Cond := [Cond.methodLink RX12 135 yX12_appends, Cond.static yX12_appends, Cond.initialized RX12]
def wz_m65_X12_letters : List Cond := .code yX12_letters cX12_letters 7 (some .long) :: (wo_m65_X12_letters ++ (wz_m66_X12_appends ++ (wz_m67_X12_appends ++ (wz_m68_X12_appends ++ (wz_m69_X12_appends ++ ([] : List Cond))))))
theorem zg_m65_X12_letters : ∀ w ∈ wz_m65_X12_letters, goodWord w = true := zg_cons rfl (zg_app (by decide +kernel) (zg_app zg_m66_X12_appends (zg_app zg_m67_X12_appends (zg_app zg_m68_X12_appends (zg_app zg_m69_X12_appends zg_nil)))))
theorem zi_m65_X12_letters : ∀ w ∈ wz_m65_X12_letters, w ∈ lw_tbl := zi_cons zw_1367 (zi_app (zi_cons zw_1368 (zi_cons zw_1369 (zi_cons zw_115 zi_nil))) (zi_app zi_m66_X12_appends (zi_app zi_m67_X12_appends (zi_app zi_m68_X12_appends (zi_app zi_m69_X12_appends zi_nil)))))
set_option maxHeartbeats 4000000 in
set_option maxRecDepth 100000 in
theorem m65_X12_letters (l : Launch) (D : va_G) (zt : Nat × Nat × Nat) (g : Nat → ClassId) (r : Nat → Nat) : GM l D zt (tyM g) yX12_letters wz_m65_X12_letters ({ frames := 1, cells := 0, slots := 0, locals := 22 } : Room) [.int 103, .int 97, .int 112, .int 0, .int 0, .int 0, .int 0] (wM r g (upd iM0 14 (-1)) (up3 (up3 (up3 (up3 aM0 13 0 2) 16 0 8) 13 1 2) 16 1 8) (up3L (up3L (up3L (up3L (up3L (up3L lM0 6 0 275647447) 6 1 9451996) 6 2 40477) 6 3 6491892) 6 4 70517) 6 5 847604)) (fun v _ w' => v = some (.long 5146) ∧ w' = wM r g (upd iM0 14 (-1)) (up3 (up3 (up3 (up3 aM0 13 0 2) 16 0 8) 13 1 2) 16 1 8) (up3L (up3L (up3L (up3L (up3L (up3L lM0 6 0 275647447) 6 1 9451996) 6 2 40477) 6 3 6491892) 6 4 70517) 6 5 847604)) 0 0 := by
  refine GM.of (cc := cX12_letters) (maxL := 7) (ret := (some .long)) (own := RX12) (lv := [(0, .int 103), (1, .int 97), (2, .int 112), (3, .int 0), (4, .int 0), (5, .int 0), (6, .int 0)]) (by decide) rfl rfl (Nat.le_of_ble_eq_true rfl) rfl (fun κ sz hk hR hN => ?_)
  refine g_lconst (v := 0) hk dX12_letters_0 (by decide) ?_
  refine g_iload_n hk dX12_letters_1 rfl ?_
  refine g_callS (n := 2) hk (m66_X12_appends l D zt g r) (SP.same _) (fun _ h => h) (gi_S (List.mem_cons_of_mem _ (List.mem_append_left _ (List.mem_of_getElem? (i := 0) rfl))) (List.mem_cons_of_mem _ (List.mem_append_left _ (List.mem_of_getElem? (i := 1) rfl))) (List.mem_cons_of_mem _ (List.mem_append_left _ (List.mem_of_getElem? (i := 2) rfl))) (gi_sub (fun w h => (List.mem_cons_of_mem _ (List.mem_append_right _ (List.mem_append_left _ h)))) zg_m66_X12_appends)) rfl rfl rfl (by decide +kernel) ⟨Nat.le_of_ble_eq_true rfl, Nat.le_of_ble_eq_true rfl⟩ rfl rfl (Nat.le_of_ble_eq_true rfl) ⟨Nat.le_of_ble_eq_true rfl, Nat.le_of_ble_eq_true rfl⟩ dX12_letters_2 (fun v ty' w' hp hk' => ?_)
  obtain ⟨rfl, rfl⟩ := hp
  show GW κ 7 0 0 (wM r g (upd iM0 14 (-1)) (up3 (up3 (up3 (up3 aM0 13 0 2) 16 0 8) 13 1 2) 16 1 8) (up3L (up3L (up3L (up3L (up3L (up3L lM0 6 0 275647447) 6 1 9451996) 6 2 40477) 6 3 6491892) 6 4 70517) 6 5 847604)) 5 [(0, .int 103), (1, .int 97), (2, .int 112), (3, .int 0), (4, .int 0), (5, .int 0), (6, .int 0)] [.long 7]
  refine g_iload_n hk dX12_letters_5 rfl ?_
  refine g_callS (n := 2) hk (m67_X12_appends l D zt g r) (SP.same _) (fun _ h => h) (gi_S (List.mem_cons_of_mem _ (List.mem_append_left _ (List.mem_of_getElem? (i := 0) rfl))) (List.mem_cons_of_mem _ (List.mem_append_left _ (List.mem_of_getElem? (i := 1) rfl))) (List.mem_cons_of_mem _ (List.mem_append_left _ (List.mem_of_getElem? (i := 2) rfl))) (gi_sub (fun w h => (List.mem_cons_of_mem _ (List.mem_append_right _ (List.mem_append_right _ (List.mem_append_left _ h))))) zg_m67_X12_appends)) rfl rfl rfl (by decide +kernel) ⟨Nat.le_of_ble_eq_true rfl, Nat.le_of_ble_eq_true rfl⟩ rfl rfl (Nat.le_of_ble_eq_true rfl) ⟨Nat.le_of_ble_eq_true rfl, Nat.le_of_ble_eq_true rfl⟩ dX12_letters_6 (fun v ty' w' hp hk' => ?_)
  obtain ⟨rfl, rfl⟩ := hp
  show GW κ 7 0 0 (wM r g (upd iM0 14 (-1)) (up3 (up3 (up3 (up3 aM0 13 0 2) 16 0 8) 13 1 2) 16 1 8) (up3L (up3L (up3L (up3L (up3L (up3L lM0 6 0 275647447) 6 1 9451996) 6 2 40477) 6 3 6491892) 6 4 70517) 6 5 847604)) 9 [(0, .int 103), (1, .int 97), (2, .int 112), (3, .int 0), (4, .int 0), (5, .int 0), (6, .int 0)] [.long 190]
  refine g_iload_n hk dX12_letters_9 rfl ?_
  refine g_callS (n := 2) hk (m68_X12_appends l D zt g r) (SP.same _) (fun _ h => h) (gi_S (List.mem_cons_of_mem _ (List.mem_append_left _ (List.mem_of_getElem? (i := 0) rfl))) (List.mem_cons_of_mem _ (List.mem_append_left _ (List.mem_of_getElem? (i := 1) rfl))) (List.mem_cons_of_mem _ (List.mem_append_left _ (List.mem_of_getElem? (i := 2) rfl))) (gi_sub (fun w h => (List.mem_cons_of_mem _ (List.mem_append_right _ (List.mem_append_right _ (List.mem_append_right _ (List.mem_append_left _ h)))))) zg_m68_X12_appends)) rfl rfl rfl (by decide +kernel) ⟨Nat.le_of_ble_eq_true rfl, Nat.le_of_ble_eq_true rfl⟩ rfl rfl (Nat.le_of_ble_eq_true rfl) ⟨Nat.le_of_ble_eq_true rfl, Nat.le_of_ble_eq_true rfl⟩ dX12_letters_10 (fun v ty' w' hp hk' => ?_)
  obtain ⟨rfl, rfl⟩ := hp
  show GW κ 7 0 0 (wM r g (upd iM0 14 (-1)) (up3 (up3 (up3 (up3 aM0 13 0 2) 16 0 8) 13 1 2) 16 1 8) (up3L (up3L (up3L (up3L (up3L (up3L lM0 6 0 275647447) 6 1 9451996) 6 2 40477) 6 3 6491892) 6 4 70517) 6 5 847604)) 13 [(0, .int 103), (1, .int 97), (2, .int 112), (3, .int 0), (4, .int 0), (5, .int 0), (6, .int 0)] [.long 5146]
  refine g_iload_n hk dX12_letters_13 rfl ?_
  refine g_callS (n := 2) hk (m69_X12_appends l D zt g r) (SP.same _) (fun _ h => h) (gi_S (List.mem_cons_of_mem _ (List.mem_append_left _ (List.mem_of_getElem? (i := 0) rfl))) (List.mem_cons_of_mem _ (List.mem_append_left _ (List.mem_of_getElem? (i := 1) rfl))) (List.mem_cons_of_mem _ (List.mem_append_left _ (List.mem_of_getElem? (i := 2) rfl))) (gi_sub (fun w h => (List.mem_cons_of_mem _ (List.mem_append_right _ (List.mem_append_right _ (List.mem_append_right _ (List.mem_append_right _ (List.mem_append_left _ h))))))) zg_m69_X12_appends)) rfl rfl rfl (by decide +kernel) ⟨Nat.le_of_ble_eq_true rfl, Nat.le_of_ble_eq_true rfl⟩ rfl rfl (Nat.le_of_ble_eq_true rfl) ⟨Nat.le_of_ble_eq_true rfl, Nat.le_of_ble_eq_true rfl⟩ dX12_letters_14 (fun v ty' w' hp hk' => ?_)
  obtain ⟨rfl, rfl⟩ := hp
  show GW κ 7 0 0 (wM r g (upd iM0 14 (-1)) (up3 (up3 (up3 (up3 aM0 13 0 2) 16 0 8) 13 1 2) 16 1 8) (up3L (up3L (up3L (up3L (up3L (up3L lM0 6 0 275647447) 6 1 9451996) 6 2 40477) 6 3 6491892) 6 4 70517) 6 5 847604)) 17 [(0, .int 103), (1, .int 97), (2, .int 112), (3, .int 0), (4, .int 0), (5, .int 0), (6, .int 0)] [.long 5146]
  refine g_iload hk dX12_letters_17 rfl ?_
  refine g_callS (n := 2) hk (m69_X12_appends l D zt g r) (SP.same _) (fun _ h => h) (gi_S (List.mem_cons_of_mem _ (List.mem_append_left _ (List.mem_of_getElem? (i := 0) rfl))) (List.mem_cons_of_mem _ (List.mem_append_left _ (List.mem_of_getElem? (i := 1) rfl))) (List.mem_cons_of_mem _ (List.mem_append_left _ (List.mem_of_getElem? (i := 2) rfl))) (gi_sub (fun w h => (List.mem_cons_of_mem _ (List.mem_append_right _ (List.mem_append_right _ (List.mem_append_right _ (List.mem_append_right _ (List.mem_append_left _ h))))))) zg_m69_X12_appends)) rfl rfl rfl (by decide +kernel) ⟨Nat.le_of_ble_eq_true rfl, Nat.le_of_ble_eq_true rfl⟩ rfl rfl (Nat.le_of_ble_eq_true rfl) ⟨Nat.le_of_ble_eq_true rfl, Nat.le_of_ble_eq_true rfl⟩ dX12_letters_19 (fun v ty' w' hp hk' => ?_)
  obtain ⟨rfl, rfl⟩ := hp
  show GW κ 7 0 0 (wM r g (upd iM0 14 (-1)) (up3 (up3 (up3 (up3 aM0 13 0 2) 16 0 8) 13 1 2) 16 1 8) (up3L (up3L (up3L (up3L (up3L (up3L lM0 6 0 275647447) 6 1 9451996) 6 2 40477) 6 3 6491892) 6 4 70517) 6 5 847604)) 22 [(0, .int 103), (1, .int 97), (2, .int 112), (3, .int 0), (4, .int 0), (5, .int 0), (6, .int 0)] [.long 5146]
  refine g_iload hk dX12_letters_22 rfl ?_
  refine g_callS (n := 2) hk (m69_X12_appends l D zt g r) (SP.same _) (fun _ h => h) (gi_S (List.mem_cons_of_mem _ (List.mem_append_left _ (List.mem_of_getElem? (i := 0) rfl))) (List.mem_cons_of_mem _ (List.mem_append_left _ (List.mem_of_getElem? (i := 1) rfl))) (List.mem_cons_of_mem _ (List.mem_append_left _ (List.mem_of_getElem? (i := 2) rfl))) (gi_sub (fun w h => (List.mem_cons_of_mem _ (List.mem_append_right _ (List.mem_append_right _ (List.mem_append_right _ (List.mem_append_right _ (List.mem_append_left _ h))))))) zg_m69_X12_appends)) rfl rfl rfl (by decide +kernel) ⟨Nat.le_of_ble_eq_true rfl, Nat.le_of_ble_eq_true rfl⟩ rfl rfl (Nat.le_of_ble_eq_true rfl) ⟨Nat.le_of_ble_eq_true rfl, Nat.le_of_ble_eq_true rfl⟩ dX12_letters_24 (fun v ty' w' hp hk' => ?_)
  obtain ⟨rfl, rfl⟩ := hp
  show GW κ 7 0 0 (wM r g (upd iM0 14 (-1)) (up3 (up3 (up3 (up3 aM0 13 0 2) 16 0 8) 13 1 2) 16 1 8) (up3L (up3L (up3L (up3L (up3L (up3L lM0 6 0 275647447) 6 1 9451996) 6 2 40477) 6 3 6491892) 6 4 70517) 6 5 847604)) 27 [(0, .int 103), (1, .int 97), (2, .int 112), (3, .int 0), (4, .int 0), (5, .int 0), (6, .int 0)] [.long 5146]
  refine g_iload hk dX12_letters_27 rfl ?_
  refine g_callS (n := 2) hk (m69_X12_appends l D zt g r) (SP.same _) (fun _ h => h) (gi_S (List.mem_cons_of_mem _ (List.mem_append_left _ (List.mem_of_getElem? (i := 0) rfl))) (List.mem_cons_of_mem _ (List.mem_append_left _ (List.mem_of_getElem? (i := 1) rfl))) (List.mem_cons_of_mem _ (List.mem_append_left _ (List.mem_of_getElem? (i := 2) rfl))) (gi_sub (fun w h => (List.mem_cons_of_mem _ (List.mem_append_right _ (List.mem_append_right _ (List.mem_append_right _ (List.mem_append_right _ (List.mem_append_left _ h))))))) zg_m69_X12_appends)) rfl rfl rfl (by decide +kernel) ⟨Nat.le_of_ble_eq_true rfl, Nat.le_of_ble_eq_true rfl⟩ rfl rfl (Nat.le_of_ble_eq_true rfl) ⟨Nat.le_of_ble_eq_true rfl, Nat.le_of_ble_eq_true rfl⟩ dX12_letters_29 (fun v ty' w' hp hk' => ?_)
  obtain ⟨rfl, rfl⟩ := hp
  show GW κ 7 0 0 (wM r g (upd iM0 14 (-1)) (up3 (up3 (up3 (up3 aM0 13 0 2) 16 0 8) 13 1 2) 16 1 8) (up3L (up3L (up3L (up3L (up3L (up3L lM0 6 0 275647447) 6 1 9451996) 6 2 40477) 6 3 6491892) 6 4 70517) 6 5 847604)) 32 [(0, .int 103), (1, .int 97), (2, .int 112), (3, .int 0), (4, .int 0), (5, .int 0), (6, .int 0)] [.long 5146]
  exact g_lret hk hR ⟨rfl, rfl⟩ dX12_letters_32
def wo_m71_X12_appends : List Cond := [Cond.constantLong RX12 133 (27)]
def wz_m71_X12_appends : List Cond := .code yX12_appends cX12_appends 3 (some .long) :: (wo_m71_X12_appends ++ ([] : List Cond))
theorem zg_m71_X12_appends : ∀ w ∈ wz_m71_X12_appends, goodWord w = true := zg_cons rfl (zg_app (by decide +kernel) zg_nil)
theorem zi_m71_X12_appends : ∀ w ∈ wz_m71_X12_appends, w ∈ lw_tbl := zi_cons zw_1370 (zi_app (zi_cons zw_1371 zi_nil) zi_nil)
set_option maxHeartbeats 4000000 in
set_option maxRecDepth 100000 in
theorem m71_X12_appends (l : Launch) (D : va_G) (zt : Nat × Nat × Nat) (g : Nat → ClassId) (r : Nat → Nat) : GM l D zt (tyM g) yX12_appends wz_m71_X12_appends ({ frames := 0, cells := 0, slots := 0, locals := 0 } : Room) [.long 0, .int 110] (wM r g (upd iM0 14 (-1)) (up3 (up3 (up3 (up3 aM0 13 0 2) 16 0 8) 13 1 2) 16 1 8) (up3L (up3L (up3L (up3L (up3L (up3L (up3L lM0 6 0 275647447) 6 1 9451996) 6 2 40477) 6 3 6491892) 6 4 70517) 6 5 847604) 6 6 5146)) (fun v _ w' => v = some (.long 14) ∧ w' = wM r g (upd iM0 14 (-1)) (up3 (up3 (up3 (up3 aM0 13 0 2) 16 0 8) 13 1 2) 16 1 8) (up3L (up3L (up3L (up3L (up3L (up3L (up3L lM0 6 0 275647447) 6 1 9451996) 6 2 40477) 6 3 6491892) 6 4 70517) 6 5 847604) 6 6 5146)) 0 0 := by
  refine GM.of (cc := cX12_appends) (maxL := 3) (ret := (some .long)) (own := RX12) (lv := [(0, .long 0), (2, .int 110)]) (by decide) rfl rfl (Nat.le_of_ble_eq_true rfl) rfl (fun κ sz hk hR hN => ?_)
  refine g_iload_n hk dX12_appends_0 rfl ?_
  refine g_if_ne (tgt := 8) (a := 110) hk dX12_appends_1 (by decide) rfl (fun _ => ?_) (fun z9 => absurd (show (110 : Int) ≠ (0 : Int) from by decide) z9)
  refine g_ldc2 (v := 27) hk (List.mem_cons_of_mem _ (List.mem_append_left _ (List.mem_of_getElem? (i := 0) rfl))) dX12_appends_8 ?_
  refine g_lload_n hk dX12_appends_11 rfl ?_
  refine g_lmul hk dX12_appends_12 ?_
  refine g_norml (v := 0) (by decide) ?_
  refine g_iload_n hk dX12_appends_13 rfl ?_
  refine g_bipush (v := 97) hk dX12_appends_14 (by decide) ?_
  refine g_isub hk dX12_appends_16 ?_
  refine g_norm (v := 13) (by decide) ?_
  refine g_iconst (v := 1) hk dX12_appends_17 (by decide) ?_
  refine g_iadd hk dX12_appends_18 ?_
  refine g_norm (v := 14) (by decide) ?_
  refine g_i2l (v := 14) hk dX12_appends_19 (by decide) ?_
  refine g_ladd hk dX12_appends_20 ?_
  refine g_norml (v := 14) (by decide) ?_
  exact g_lret hk hR ⟨rfl, rfl⟩ dX12_appends_21
def wo_m72_X12_appends : List Cond := [Cond.constantLong RX12 133 (27)]
def wz_m72_X12_appends : List Cond := .code yX12_appends cX12_appends 3 (some .long) :: (wo_m72_X12_appends ++ ([] : List Cond))
theorem zg_m72_X12_appends : ∀ w ∈ wz_m72_X12_appends, goodWord w = true := zg_cons rfl (zg_app (by decide +kernel) zg_nil)
theorem zi_m72_X12_appends : ∀ w ∈ wz_m72_X12_appends, w ∈ lw_tbl := zi_cons zw_1370 (zi_app (zi_cons zw_1371 zi_nil) zi_nil)
set_option maxHeartbeats 4000000 in
set_option maxRecDepth 100000 in
theorem m72_X12_appends (l : Launch) (D : va_G) (zt : Nat × Nat × Nat) (g : Nat → ClassId) (r : Nat → Nat) : GM l D zt (tyM g) yX12_appends wz_m72_X12_appends ({ frames := 0, cells := 0, slots := 0, locals := 0 } : Room) [.long 14, .int 111] (wM r g (upd iM0 14 (-1)) (up3 (up3 (up3 (up3 aM0 13 0 2) 16 0 8) 13 1 2) 16 1 8) (up3L (up3L (up3L (up3L (up3L (up3L (up3L lM0 6 0 275647447) 6 1 9451996) 6 2 40477) 6 3 6491892) 6 4 70517) 6 5 847604) 6 6 5146)) (fun v _ w' => v = some (.long 393) ∧ w' = wM r g (upd iM0 14 (-1)) (up3 (up3 (up3 (up3 aM0 13 0 2) 16 0 8) 13 1 2) 16 1 8) (up3L (up3L (up3L (up3L (up3L (up3L (up3L lM0 6 0 275647447) 6 1 9451996) 6 2 40477) 6 3 6491892) 6 4 70517) 6 5 847604) 6 6 5146)) 0 0 := by
  refine GM.of (cc := cX12_appends) (maxL := 3) (ret := (some .long)) (own := RX12) (lv := [(0, .long 14), (2, .int 111)]) (by decide) rfl rfl (Nat.le_of_ble_eq_true rfl) rfl (fun κ sz hk hR hN => ?_)
  refine g_iload_n hk dX12_appends_0 rfl ?_
  refine g_if_ne (tgt := 8) (a := 111) hk dX12_appends_1 (by decide) rfl (fun _ => ?_) (fun z9 => absurd (show (111 : Int) ≠ (0 : Int) from by decide) z9)
  refine g_ldc2 (v := 27) hk (List.mem_cons_of_mem _ (List.mem_append_left _ (List.mem_of_getElem? (i := 0) rfl))) dX12_appends_8 ?_
  refine g_lload_n hk dX12_appends_11 rfl ?_
  refine g_lmul hk dX12_appends_12 ?_
  refine g_norml (v := 378) (by decide) ?_
  refine g_iload_n hk dX12_appends_13 rfl ?_
  refine g_bipush (v := 97) hk dX12_appends_14 (by decide) ?_
  refine g_isub hk dX12_appends_16 ?_
  refine g_norm (v := 14) (by decide) ?_
  refine g_iconst (v := 1) hk dX12_appends_17 (by decide) ?_
  refine g_iadd hk dX12_appends_18 ?_
  refine g_norm (v := 15) (by decide) ?_
  refine g_i2l (v := 15) hk dX12_appends_19 (by decide) ?_
  refine g_ladd hk dX12_appends_20 ?_
  refine g_norml (v := 393) (by decide) ?_
  exact g_lret hk hR ⟨rfl, rfl⟩ dX12_appends_21
def wo_m73_X12_appends : List Cond := [Cond.constantLong RX12 133 (27)]
def wz_m73_X12_appends : List Cond := .code yX12_appends cX12_appends 3 (some .long) :: (wo_m73_X12_appends ++ ([] : List Cond))
theorem zg_m73_X12_appends : ∀ w ∈ wz_m73_X12_appends, goodWord w = true := zg_cons rfl (zg_app (by decide +kernel) zg_nil)
theorem zi_m73_X12_appends : ∀ w ∈ wz_m73_X12_appends, w ∈ lw_tbl := zi_cons zw_1370 (zi_app (zi_cons zw_1371 zi_nil) zi_nil)
set_option maxHeartbeats 4000000 in
set_option maxRecDepth 100000 in
theorem m73_X12_appends (l : Launch) (D : va_G) (zt : Nat × Nat × Nat) (g : Nat → ClassId) (r : Nat → Nat) : GM l D zt (tyM g) yX12_appends wz_m73_X12_appends ({ frames := 0, cells := 0, slots := 0, locals := 0 } : Room) [.long 393, .int 110] (wM r g (upd iM0 14 (-1)) (up3 (up3 (up3 (up3 aM0 13 0 2) 16 0 8) 13 1 2) 16 1 8) (up3L (up3L (up3L (up3L (up3L (up3L (up3L lM0 6 0 275647447) 6 1 9451996) 6 2 40477) 6 3 6491892) 6 4 70517) 6 5 847604) 6 6 5146)) (fun v _ w' => v = some (.long 10625) ∧ w' = wM r g (upd iM0 14 (-1)) (up3 (up3 (up3 (up3 aM0 13 0 2) 16 0 8) 13 1 2) 16 1 8) (up3L (up3L (up3L (up3L (up3L (up3L (up3L lM0 6 0 275647447) 6 1 9451996) 6 2 40477) 6 3 6491892) 6 4 70517) 6 5 847604) 6 6 5146)) 0 0 := by
  refine GM.of (cc := cX12_appends) (maxL := 3) (ret := (some .long)) (own := RX12) (lv := [(0, .long 393), (2, .int 110)]) (by decide) rfl rfl (Nat.le_of_ble_eq_true rfl) rfl (fun κ sz hk hR hN => ?_)
  refine g_iload_n hk dX12_appends_0 rfl ?_
  refine g_if_ne (tgt := 8) (a := 110) hk dX12_appends_1 (by decide) rfl (fun _ => ?_) (fun z9 => absurd (show (110 : Int) ≠ (0 : Int) from by decide) z9)
  refine g_ldc2 (v := 27) hk (List.mem_cons_of_mem _ (List.mem_append_left _ (List.mem_of_getElem? (i := 0) rfl))) dX12_appends_8 ?_
  refine g_lload_n hk dX12_appends_11 rfl ?_
  refine g_lmul hk dX12_appends_12 ?_
  refine g_norml (v := 10611) (by decide) ?_
  refine g_iload_n hk dX12_appends_13 rfl ?_
  refine g_bipush (v := 97) hk dX12_appends_14 (by decide) ?_
  refine g_isub hk dX12_appends_16 ?_
  refine g_norm (v := 13) (by decide) ?_
  refine g_iconst (v := 1) hk dX12_appends_17 (by decide) ?_
  refine g_iadd hk dX12_appends_18 ?_
  refine g_norm (v := 14) (by decide) ?_
  refine g_i2l (v := 14) hk dX12_appends_19 (by decide) ?_
  refine g_ladd hk dX12_appends_20 ?_
  refine g_norml (v := 10625) (by decide) ?_
  exact g_lret hk hR ⟨rfl, rfl⟩ dX12_appends_21
def wo_m74_X12_appends : List Cond := [Cond.constantLong RX12 133 (27)]
def wz_m74_X12_appends : List Cond := .code yX12_appends cX12_appends 3 (some .long) :: (wo_m74_X12_appends ++ ([] : List Cond))
theorem zg_m74_X12_appends : ∀ w ∈ wz_m74_X12_appends, goodWord w = true := zg_cons rfl (zg_app (by decide +kernel) zg_nil)
theorem zi_m74_X12_appends : ∀ w ∈ wz_m74_X12_appends, w ∈ lw_tbl := zi_cons zw_1370 (zi_app (zi_cons zw_1371 zi_nil) zi_nil)
set_option maxHeartbeats 4000000 in
set_option maxRecDepth 100000 in
theorem m74_X12_appends (l : Launch) (D : va_G) (zt : Nat × Nat × Nat) (g : Nat → ClassId) (r : Nat → Nat) : GM l D zt (tyM g) yX12_appends wz_m74_X12_appends ({ frames := 0, cells := 0, slots := 0, locals := 0 } : Room) [.long 10625, .int 101] (wM r g (upd iM0 14 (-1)) (up3 (up3 (up3 (up3 aM0 13 0 2) 16 0 8) 13 1 2) 16 1 8) (up3L (up3L (up3L (up3L (up3L (up3L (up3L lM0 6 0 275647447) 6 1 9451996) 6 2 40477) 6 3 6491892) 6 4 70517) 6 5 847604) 6 6 5146)) (fun v _ w' => v = some (.long 286880) ∧ w' = wM r g (upd iM0 14 (-1)) (up3 (up3 (up3 (up3 aM0 13 0 2) 16 0 8) 13 1 2) 16 1 8) (up3L (up3L (up3L (up3L (up3L (up3L (up3L lM0 6 0 275647447) 6 1 9451996) 6 2 40477) 6 3 6491892) 6 4 70517) 6 5 847604) 6 6 5146)) 0 0 := by
  refine GM.of (cc := cX12_appends) (maxL := 3) (ret := (some .long)) (own := RX12) (lv := [(0, .long 10625), (2, .int 101)]) (by decide) rfl rfl (Nat.le_of_ble_eq_true rfl) rfl (fun κ sz hk hR hN => ?_)
  refine g_iload_n hk dX12_appends_0 rfl ?_
  refine g_if_ne (tgt := 8) (a := 101) hk dX12_appends_1 (by decide) rfl (fun _ => ?_) (fun z9 => absurd (show (101 : Int) ≠ (0 : Int) from by decide) z9)
  refine g_ldc2 (v := 27) hk (List.mem_cons_of_mem _ (List.mem_append_left _ (List.mem_of_getElem? (i := 0) rfl))) dX12_appends_8 ?_
  refine g_lload_n hk dX12_appends_11 rfl ?_
  refine g_lmul hk dX12_appends_12 ?_
  refine g_norml (v := 286875) (by decide) ?_
  refine g_iload_n hk dX12_appends_13 rfl ?_
  refine g_bipush (v := 97) hk dX12_appends_14 (by decide) ?_
  refine g_isub hk dX12_appends_16 ?_
  refine g_norm (v := 4) (by decide) ?_
  refine g_iconst (v := 1) hk dX12_appends_17 (by decide) ?_
  refine g_iadd hk dX12_appends_18 ?_
  refine g_norm (v := 5) (by decide) ?_
  refine g_i2l (v := 5) hk dX12_appends_19 (by decide) ?_
  refine g_ladd hk dX12_appends_20 ?_
  refine g_norml (v := 286880) (by decide) ?_
  exact g_lret hk hR ⟨rfl, rfl⟩ dX12_appends_21
def wo_m75_X12_appends : List Cond := []
def wz_m75_X12_appends : List Cond := .code yX12_appends cX12_appends 3 (some .long) :: (wo_m75_X12_appends ++ ([] : List Cond))
theorem zg_m75_X12_appends : ∀ w ∈ wz_m75_X12_appends, goodWord w = true := zg_cons rfl (zg_app (by decide +kernel) zg_nil)
theorem zi_m75_X12_appends : ∀ w ∈ wz_m75_X12_appends, w ∈ lw_tbl := zi_cons zw_1370 (zi_app zi_nil zi_nil)
set_option maxHeartbeats 4000000 in
set_option maxRecDepth 100000 in
theorem m75_X12_appends (l : Launch) (D : va_G) (zt : Nat × Nat × Nat) (g : Nat → ClassId) (r : Nat → Nat) : GM l D zt (tyM g) yX12_appends wz_m75_X12_appends ({ frames := 0, cells := 0, slots := 0, locals := 0 } : Room) [.long 286880, .int 0] (wM r g (upd iM0 14 (-1)) (up3 (up3 (up3 (up3 aM0 13 0 2) 16 0 8) 13 1 2) 16 1 8) (up3L (up3L (up3L (up3L (up3L (up3L (up3L lM0 6 0 275647447) 6 1 9451996) 6 2 40477) 6 3 6491892) 6 4 70517) 6 5 847604) 6 6 5146)) (fun v _ w' => v = some (.long 286880) ∧ w' = wM r g (upd iM0 14 (-1)) (up3 (up3 (up3 (up3 aM0 13 0 2) 16 0 8) 13 1 2) 16 1 8) (up3L (up3L (up3L (up3L (up3L (up3L (up3L lM0 6 0 275647447) 6 1 9451996) 6 2 40477) 6 3 6491892) 6 4 70517) 6 5 847604) 6 6 5146)) 0 0 := by
  refine GM.of (cc := cX12_appends) (maxL := 3) (ret := (some .long)) (own := RX12) (lv := [(0, .long 286880), (2, .int 0)]) (by decide) rfl rfl (Nat.le_of_ble_eq_true rfl) rfl (fun κ sz hk hR hN => ?_)
  refine g_iload_n hk dX12_appends_0 rfl ?_
  refine g_if_ne (tgt := 8) (a := 0) hk dX12_appends_1 (by decide) rfl (fun z9 => absurd z9 (show ¬ ((0 : Int) ≠ (0 : Int)) from by decide)) (fun _ => ?_)
  refine g_lload_n hk dX12_appends_4 rfl ?_
  refine g_goto (tgt := 21) hk dX12_appends_5 (by decide) ?_
  exact g_lret hk hR ⟨rfl, rfl⟩ dX12_appends_21
def wo_m70_X12_letters : List Cond := [Cond.methodLink RX12 135 yX12_appends, Cond.static yX12_appends, Cond.initialized RX12]
def wz_m70_X12_letters : List Cond := .code yX12_letters cX12_letters 7 (some .long) :: (wo_m70_X12_letters ++ (wz_m71_X12_appends ++ (wz_m72_X12_appends ++ (wz_m73_X12_appends ++ (wz_m74_X12_appends ++ (wz_m75_X12_appends ++ ([] : List Cond)))))))
theorem zg_m70_X12_letters : ∀ w ∈ wz_m70_X12_letters, goodWord w = true := zg_cons rfl (zg_app (by decide +kernel) (zg_app zg_m71_X12_appends (zg_app zg_m72_X12_appends (zg_app zg_m73_X12_appends (zg_app zg_m74_X12_appends (zg_app zg_m75_X12_appends zg_nil))))))
theorem zi_m70_X12_letters : ∀ w ∈ wz_m70_X12_letters, w ∈ lw_tbl := zi_cons zw_1367 (zi_app (zi_cons zw_1368 (zi_cons zw_1369 (zi_cons zw_115 zi_nil))) (zi_app zi_m71_X12_appends (zi_app zi_m72_X12_appends (zi_app zi_m73_X12_appends (zi_app zi_m74_X12_appends (zi_app zi_m75_X12_appends zi_nil))))))
set_option maxHeartbeats 4000000 in
set_option maxRecDepth 100000 in
theorem m70_X12_letters (l : Launch) (D : va_G) (zt : Nat × Nat × Nat) (g : Nat → ClassId) (r : Nat → Nat) : GM l D zt (tyM g) yX12_letters wz_m70_X12_letters ({ frames := 1, cells := 0, slots := 0, locals := 22 } : Room) [.int 110, .int 111, .int 110, .int 101, .int 0, .int 0, .int 0] (wM r g (upd iM0 14 (-1)) (up3 (up3 (up3 (up3 aM0 13 0 2) 16 0 8) 13 1 2) 16 1 8) (up3L (up3L (up3L (up3L (up3L (up3L (up3L lM0 6 0 275647447) 6 1 9451996) 6 2 40477) 6 3 6491892) 6 4 70517) 6 5 847604) 6 6 5146)) (fun v _ w' => v = some (.long 286880) ∧ w' = wM r g (upd iM0 14 (-1)) (up3 (up3 (up3 (up3 aM0 13 0 2) 16 0 8) 13 1 2) 16 1 8) (up3L (up3L (up3L (up3L (up3L (up3L (up3L lM0 6 0 275647447) 6 1 9451996) 6 2 40477) 6 3 6491892) 6 4 70517) 6 5 847604) 6 6 5146)) 0 0 := by
  refine GM.of (cc := cX12_letters) (maxL := 7) (ret := (some .long)) (own := RX12) (lv := [(0, .int 110), (1, .int 111), (2, .int 110), (3, .int 101), (4, .int 0), (5, .int 0), (6, .int 0)]) (by decide) rfl rfl (Nat.le_of_ble_eq_true rfl) rfl (fun κ sz hk hR hN => ?_)
  refine g_lconst (v := 0) hk dX12_letters_0 (by decide) ?_
  refine g_iload_n hk dX12_letters_1 rfl ?_
  refine g_callS (n := 2) hk (m71_X12_appends l D zt g r) (SP.same _) (fun _ h => h) (gi_S (List.mem_cons_of_mem _ (List.mem_append_left _ (List.mem_of_getElem? (i := 0) rfl))) (List.mem_cons_of_mem _ (List.mem_append_left _ (List.mem_of_getElem? (i := 1) rfl))) (List.mem_cons_of_mem _ (List.mem_append_left _ (List.mem_of_getElem? (i := 2) rfl))) (gi_sub (fun w h => (List.mem_cons_of_mem _ (List.mem_append_right _ (List.mem_append_left _ h)))) zg_m71_X12_appends)) rfl rfl rfl (by decide +kernel) ⟨Nat.le_of_ble_eq_true rfl, Nat.le_of_ble_eq_true rfl⟩ rfl rfl (Nat.le_of_ble_eq_true rfl) ⟨Nat.le_of_ble_eq_true rfl, Nat.le_of_ble_eq_true rfl⟩ dX12_letters_2 (fun v ty' w' hp hk' => ?_)
  obtain ⟨rfl, rfl⟩ := hp
  show GW κ 7 0 0 (wM r g (upd iM0 14 (-1)) (up3 (up3 (up3 (up3 aM0 13 0 2) 16 0 8) 13 1 2) 16 1 8) (up3L (up3L (up3L (up3L (up3L (up3L (up3L lM0 6 0 275647447) 6 1 9451996) 6 2 40477) 6 3 6491892) 6 4 70517) 6 5 847604) 6 6 5146)) 5 [(0, .int 110), (1, .int 111), (2, .int 110), (3, .int 101), (4, .int 0), (5, .int 0), (6, .int 0)] [.long 14]
  refine g_iload_n hk dX12_letters_5 rfl ?_
  refine g_callS (n := 2) hk (m72_X12_appends l D zt g r) (SP.same _) (fun _ h => h) (gi_S (List.mem_cons_of_mem _ (List.mem_append_left _ (List.mem_of_getElem? (i := 0) rfl))) (List.mem_cons_of_mem _ (List.mem_append_left _ (List.mem_of_getElem? (i := 1) rfl))) (List.mem_cons_of_mem _ (List.mem_append_left _ (List.mem_of_getElem? (i := 2) rfl))) (gi_sub (fun w h => (List.mem_cons_of_mem _ (List.mem_append_right _ (List.mem_append_right _ (List.mem_append_left _ h))))) zg_m72_X12_appends)) rfl rfl rfl (by decide +kernel) ⟨Nat.le_of_ble_eq_true rfl, Nat.le_of_ble_eq_true rfl⟩ rfl rfl (Nat.le_of_ble_eq_true rfl) ⟨Nat.le_of_ble_eq_true rfl, Nat.le_of_ble_eq_true rfl⟩ dX12_letters_6 (fun v ty' w' hp hk' => ?_)
  obtain ⟨rfl, rfl⟩ := hp
  show GW κ 7 0 0 (wM r g (upd iM0 14 (-1)) (up3 (up3 (up3 (up3 aM0 13 0 2) 16 0 8) 13 1 2) 16 1 8) (up3L (up3L (up3L (up3L (up3L (up3L (up3L lM0 6 0 275647447) 6 1 9451996) 6 2 40477) 6 3 6491892) 6 4 70517) 6 5 847604) 6 6 5146)) 9 [(0, .int 110), (1, .int 111), (2, .int 110), (3, .int 101), (4, .int 0), (5, .int 0), (6, .int 0)] [.long 393]
  refine g_iload_n hk dX12_letters_9 rfl ?_
  refine g_callS (n := 2) hk (m73_X12_appends l D zt g r) (SP.same _) (fun _ h => h) (gi_S (List.mem_cons_of_mem _ (List.mem_append_left _ (List.mem_of_getElem? (i := 0) rfl))) (List.mem_cons_of_mem _ (List.mem_append_left _ (List.mem_of_getElem? (i := 1) rfl))) (List.mem_cons_of_mem _ (List.mem_append_left _ (List.mem_of_getElem? (i := 2) rfl))) (gi_sub (fun w h => (List.mem_cons_of_mem _ (List.mem_append_right _ (List.mem_append_right _ (List.mem_append_right _ (List.mem_append_left _ h)))))) zg_m73_X12_appends)) rfl rfl rfl (by decide +kernel) ⟨Nat.le_of_ble_eq_true rfl, Nat.le_of_ble_eq_true rfl⟩ rfl rfl (Nat.le_of_ble_eq_true rfl) ⟨Nat.le_of_ble_eq_true rfl, Nat.le_of_ble_eq_true rfl⟩ dX12_letters_10 (fun v ty' w' hp hk' => ?_)
  obtain ⟨rfl, rfl⟩ := hp
  show GW κ 7 0 0 (wM r g (upd iM0 14 (-1)) (up3 (up3 (up3 (up3 aM0 13 0 2) 16 0 8) 13 1 2) 16 1 8) (up3L (up3L (up3L (up3L (up3L (up3L (up3L lM0 6 0 275647447) 6 1 9451996) 6 2 40477) 6 3 6491892) 6 4 70517) 6 5 847604) 6 6 5146)) 13 [(0, .int 110), (1, .int 111), (2, .int 110), (3, .int 101), (4, .int 0), (5, .int 0), (6, .int 0)] [.long 10625]
  refine g_iload_n hk dX12_letters_13 rfl ?_
  refine g_callS (n := 2) hk (m74_X12_appends l D zt g r) (SP.same _) (fun _ h => h) (gi_S (List.mem_cons_of_mem _ (List.mem_append_left _ (List.mem_of_getElem? (i := 0) rfl))) (List.mem_cons_of_mem _ (List.mem_append_left _ (List.mem_of_getElem? (i := 1) rfl))) (List.mem_cons_of_mem _ (List.mem_append_left _ (List.mem_of_getElem? (i := 2) rfl))) (gi_sub (fun w h => (List.mem_cons_of_mem _ (List.mem_append_right _ (List.mem_append_right _ (List.mem_append_right _ (List.mem_append_right _ (List.mem_append_left _ h))))))) zg_m74_X12_appends)) rfl rfl rfl (by decide +kernel) ⟨Nat.le_of_ble_eq_true rfl, Nat.le_of_ble_eq_true rfl⟩ rfl rfl (Nat.le_of_ble_eq_true rfl) ⟨Nat.le_of_ble_eq_true rfl, Nat.le_of_ble_eq_true rfl⟩ dX12_letters_14 (fun v ty' w' hp hk' => ?_)
  obtain ⟨rfl, rfl⟩ := hp
  show GW κ 7 0 0 (wM r g (upd iM0 14 (-1)) (up3 (up3 (up3 (up3 aM0 13 0 2) 16 0 8) 13 1 2) 16 1 8) (up3L (up3L (up3L (up3L (up3L (up3L (up3L lM0 6 0 275647447) 6 1 9451996) 6 2 40477) 6 3 6491892) 6 4 70517) 6 5 847604) 6 6 5146)) 17 [(0, .int 110), (1, .int 111), (2, .int 110), (3, .int 101), (4, .int 0), (5, .int 0), (6, .int 0)] [.long 286880]
  refine g_iload hk dX12_letters_17 rfl ?_
  refine g_callS (n := 2) hk (m75_X12_appends l D zt g r) (SP.same _) (fun _ h => h) (gi_S (List.mem_cons_of_mem _ (List.mem_append_left _ (List.mem_of_getElem? (i := 0) rfl))) (List.mem_cons_of_mem _ (List.mem_append_left _ (List.mem_of_getElem? (i := 1) rfl))) (List.mem_cons_of_mem _ (List.mem_append_left _ (List.mem_of_getElem? (i := 2) rfl))) (gi_sub (fun w h => (List.mem_cons_of_mem _ (List.mem_append_right _ (List.mem_append_right _ (List.mem_append_right _ (List.mem_append_right _ (List.mem_append_right _ (List.mem_append_left _ h)))))))) zg_m75_X12_appends)) rfl rfl rfl (by decide +kernel) ⟨Nat.le_of_ble_eq_true rfl, Nat.le_of_ble_eq_true rfl⟩ rfl rfl (Nat.le_of_ble_eq_true rfl) ⟨Nat.le_of_ble_eq_true rfl, Nat.le_of_ble_eq_true rfl⟩ dX12_letters_19 (fun v ty' w' hp hk' => ?_)
  obtain ⟨rfl, rfl⟩ := hp
  show GW κ 7 0 0 (wM r g (upd iM0 14 (-1)) (up3 (up3 (up3 (up3 aM0 13 0 2) 16 0 8) 13 1 2) 16 1 8) (up3L (up3L (up3L (up3L (up3L (up3L (up3L lM0 6 0 275647447) 6 1 9451996) 6 2 40477) 6 3 6491892) 6 4 70517) 6 5 847604) 6 6 5146)) 22 [(0, .int 110), (1, .int 111), (2, .int 110), (3, .int 101), (4, .int 0), (5, .int 0), (6, .int 0)] [.long 286880]
  refine g_iload hk dX12_letters_22 rfl ?_
  refine g_callS (n := 2) hk (m75_X12_appends l D zt g r) (SP.same _) (fun _ h => h) (gi_S (List.mem_cons_of_mem _ (List.mem_append_left _ (List.mem_of_getElem? (i := 0) rfl))) (List.mem_cons_of_mem _ (List.mem_append_left _ (List.mem_of_getElem? (i := 1) rfl))) (List.mem_cons_of_mem _ (List.mem_append_left _ (List.mem_of_getElem? (i := 2) rfl))) (gi_sub (fun w h => (List.mem_cons_of_mem _ (List.mem_append_right _ (List.mem_append_right _ (List.mem_append_right _ (List.mem_append_right _ (List.mem_append_right _ (List.mem_append_left _ h)))))))) zg_m75_X12_appends)) rfl rfl rfl (by decide +kernel) ⟨Nat.le_of_ble_eq_true rfl, Nat.le_of_ble_eq_true rfl⟩ rfl rfl (Nat.le_of_ble_eq_true rfl) ⟨Nat.le_of_ble_eq_true rfl, Nat.le_of_ble_eq_true rfl⟩ dX12_letters_24 (fun v ty' w' hp hk' => ?_)
  obtain ⟨rfl, rfl⟩ := hp
  show GW κ 7 0 0 (wM r g (upd iM0 14 (-1)) (up3 (up3 (up3 (up3 aM0 13 0 2) 16 0 8) 13 1 2) 16 1 8) (up3L (up3L (up3L (up3L (up3L (up3L (up3L lM0 6 0 275647447) 6 1 9451996) 6 2 40477) 6 3 6491892) 6 4 70517) 6 5 847604) 6 6 5146)) 27 [(0, .int 110), (1, .int 111), (2, .int 110), (3, .int 101), (4, .int 0), (5, .int 0), (6, .int 0)] [.long 286880]
  refine g_iload hk dX12_letters_27 rfl ?_
  refine g_callS (n := 2) hk (m75_X12_appends l D zt g r) (SP.same _) (fun _ h => h) (gi_S (List.mem_cons_of_mem _ (List.mem_append_left _ (List.mem_of_getElem? (i := 0) rfl))) (List.mem_cons_of_mem _ (List.mem_append_left _ (List.mem_of_getElem? (i := 1) rfl))) (List.mem_cons_of_mem _ (List.mem_append_left _ (List.mem_of_getElem? (i := 2) rfl))) (gi_sub (fun w h => (List.mem_cons_of_mem _ (List.mem_append_right _ (List.mem_append_right _ (List.mem_append_right _ (List.mem_append_right _ (List.mem_append_right _ (List.mem_append_left _ h)))))))) zg_m75_X12_appends)) rfl rfl rfl (by decide +kernel) ⟨Nat.le_of_ble_eq_true rfl, Nat.le_of_ble_eq_true rfl⟩ rfl rfl (Nat.le_of_ble_eq_true rfl) ⟨Nat.le_of_ble_eq_true rfl, Nat.le_of_ble_eq_true rfl⟩ dX12_letters_29 (fun v ty' w' hp hk' => ?_)
  obtain ⟨rfl, rfl⟩ := hp
  show GW κ 7 0 0 (wM r g (upd iM0 14 (-1)) (up3 (up3 (up3 (up3 aM0 13 0 2) 16 0 8) 13 1 2) 16 1 8) (up3L (up3L (up3L (up3L (up3L (up3L (up3L lM0 6 0 275647447) 6 1 9451996) 6 2 40477) 6 3 6491892) 6 4 70517) 6 5 847604) 6 6 5146)) 32 [(0, .int 110), (1, .int 111), (2, .int 110), (3, .int 101), (4, .int 0), (5, .int 0), (6, .int 0)] [.long 286880]
  exact g_lret hk hR ⟨rfl, rfl⟩ dX12_letters_32
def wo_m77_X12_appends : List Cond := [Cond.constantLong RX12 133 (27)]
def wz_m77_X12_appends : List Cond := .code yX12_appends cX12_appends 3 (some .long) :: (wo_m77_X12_appends ++ ([] : List Cond))
theorem zg_m77_X12_appends : ∀ w ∈ wz_m77_X12_appends, goodWord w = true := zg_cons rfl (zg_app (by decide +kernel) zg_nil)
theorem zi_m77_X12_appends : ∀ w ∈ wz_m77_X12_appends, w ∈ lw_tbl := zi_cons zw_1370 (zi_app (zi_cons zw_1371 zi_nil) zi_nil)
set_option maxHeartbeats 4000000 in
set_option maxRecDepth 100000 in
theorem m77_X12_appends (l : Launch) (D : va_G) (zt : Nat × Nat × Nat) (g : Nat → ClassId) (r : Nat → Nat) : GM l D zt (tyM g) yX12_appends wz_m77_X12_appends ({ frames := 0, cells := 0, slots := 0, locals := 0 } : Room) [.long 0, .int 109] (wM r g (upd iM0 14 (-1)) (up3 (up3 (up3 (up3 aM0 13 0 2) 16 0 8) 13 1 2) 16 1 8) (up3L (up3L (up3L (up3L (up3L (up3L (up3L (up3L lM0 6 0 275647447) 6 1 9451996) 6 2 40477) 6 3 6491892) 6 4 70517) 6 5 847604) 6 6 5146) 6 7 286880)) (fun v _ w' => v = some (.long 13) ∧ w' = wM r g (upd iM0 14 (-1)) (up3 (up3 (up3 (up3 aM0 13 0 2) 16 0 8) 13 1 2) 16 1 8) (up3L (up3L (up3L (up3L (up3L (up3L (up3L (up3L lM0 6 0 275647447) 6 1 9451996) 6 2 40477) 6 3 6491892) 6 4 70517) 6 5 847604) 6 6 5146) 6 7 286880)) 0 0 := by
  refine GM.of (cc := cX12_appends) (maxL := 3) (ret := (some .long)) (own := RX12) (lv := [(0, .long 0), (2, .int 109)]) (by decide) rfl rfl (Nat.le_of_ble_eq_true rfl) rfl (fun κ sz hk hR hN => ?_)
  refine g_iload_n hk dX12_appends_0 rfl ?_
  refine g_if_ne (tgt := 8) (a := 109) hk dX12_appends_1 (by decide) rfl (fun _ => ?_) (fun z9 => absurd (show (109 : Int) ≠ (0 : Int) from by decide) z9)
  refine g_ldc2 (v := 27) hk (List.mem_cons_of_mem _ (List.mem_append_left _ (List.mem_of_getElem? (i := 0) rfl))) dX12_appends_8 ?_
  refine g_lload_n hk dX12_appends_11 rfl ?_
  refine g_lmul hk dX12_appends_12 ?_
  refine g_norml (v := 0) (by decide) ?_
  refine g_iload_n hk dX12_appends_13 rfl ?_
  refine g_bipush (v := 97) hk dX12_appends_14 (by decide) ?_
  refine g_isub hk dX12_appends_16 ?_
  refine g_norm (v := 12) (by decide) ?_
  refine g_iconst (v := 1) hk dX12_appends_17 (by decide) ?_
  refine g_iadd hk dX12_appends_18 ?_
  refine g_norm (v := 13) (by decide) ?_
  refine g_i2l (v := 13) hk dX12_appends_19 (by decide) ?_
  refine g_ladd hk dX12_appends_20 ?_
  refine g_norml (v := 13) (by decide) ?_
  exact g_lret hk hR ⟨rfl, rfl⟩ dX12_appends_21
def wo_m78_X12_appends : List Cond := [Cond.constantLong RX12 133 (27)]
def wz_m78_X12_appends : List Cond := .code yX12_appends cX12_appends 3 (some .long) :: (wo_m78_X12_appends ++ ([] : List Cond))
theorem zg_m78_X12_appends : ∀ w ∈ wz_m78_X12_appends, goodWord w = true := zg_cons rfl (zg_app (by decide +kernel) zg_nil)
theorem zi_m78_X12_appends : ∀ w ∈ wz_m78_X12_appends, w ∈ lw_tbl := zi_cons zw_1370 (zi_app (zi_cons zw_1371 zi_nil) zi_nil)
set_option maxHeartbeats 4000000 in
set_option maxRecDepth 100000 in
theorem m78_X12_appends (l : Launch) (D : va_G) (zt : Nat × Nat × Nat) (g : Nat → ClassId) (r : Nat → Nat) : GM l D zt (tyM g) yX12_appends wz_m78_X12_appends ({ frames := 0, cells := 0, slots := 0, locals := 0 } : Room) [.long 13, .int 101] (wM r g (upd iM0 14 (-1)) (up3 (up3 (up3 (up3 aM0 13 0 2) 16 0 8) 13 1 2) 16 1 8) (up3L (up3L (up3L (up3L (up3L (up3L (up3L (up3L lM0 6 0 275647447) 6 1 9451996) 6 2 40477) 6 3 6491892) 6 4 70517) 6 5 847604) 6 6 5146) 6 7 286880)) (fun v _ w' => v = some (.long 356) ∧ w' = wM r g (upd iM0 14 (-1)) (up3 (up3 (up3 (up3 aM0 13 0 2) 16 0 8) 13 1 2) 16 1 8) (up3L (up3L (up3L (up3L (up3L (up3L (up3L (up3L lM0 6 0 275647447) 6 1 9451996) 6 2 40477) 6 3 6491892) 6 4 70517) 6 5 847604) 6 6 5146) 6 7 286880)) 0 0 := by
  refine GM.of (cc := cX12_appends) (maxL := 3) (ret := (some .long)) (own := RX12) (lv := [(0, .long 13), (2, .int 101)]) (by decide) rfl rfl (Nat.le_of_ble_eq_true rfl) rfl (fun κ sz hk hR hN => ?_)
  refine g_iload_n hk dX12_appends_0 rfl ?_
  refine g_if_ne (tgt := 8) (a := 101) hk dX12_appends_1 (by decide) rfl (fun _ => ?_) (fun z9 => absurd (show (101 : Int) ≠ (0 : Int) from by decide) z9)
  refine g_ldc2 (v := 27) hk (List.mem_cons_of_mem _ (List.mem_append_left _ (List.mem_of_getElem? (i := 0) rfl))) dX12_appends_8 ?_
  refine g_lload_n hk dX12_appends_11 rfl ?_
  refine g_lmul hk dX12_appends_12 ?_
  refine g_norml (v := 351) (by decide) ?_
  refine g_iload_n hk dX12_appends_13 rfl ?_
  refine g_bipush (v := 97) hk dX12_appends_14 (by decide) ?_
  refine g_isub hk dX12_appends_16 ?_
  refine g_norm (v := 4) (by decide) ?_
  refine g_iconst (v := 1) hk dX12_appends_17 (by decide) ?_
  refine g_iadd hk dX12_appends_18 ?_
  refine g_norm (v := 5) (by decide) ?_
  refine g_i2l (v := 5) hk dX12_appends_19 (by decide) ?_
  refine g_ladd hk dX12_appends_20 ?_
  refine g_norml (v := 356) (by decide) ?_
  exact g_lret hk hR ⟨rfl, rfl⟩ dX12_appends_21
def wo_m79_X12_appends : List Cond := [Cond.constantLong RX12 133 (27)]
def wz_m79_X12_appends : List Cond := .code yX12_appends cX12_appends 3 (some .long) :: (wo_m79_X12_appends ++ ([] : List Cond))
theorem zg_m79_X12_appends : ∀ w ∈ wz_m79_X12_appends, goodWord w = true := zg_cons rfl (zg_app (by decide +kernel) zg_nil)
theorem zi_m79_X12_appends : ∀ w ∈ wz_m79_X12_appends, w ∈ lw_tbl := zi_cons zw_1370 (zi_app (zi_cons zw_1371 zi_nil) zi_nil)
set_option maxHeartbeats 4000000 in
set_option maxRecDepth 100000 in
theorem m79_X12_appends (l : Launch) (D : va_G) (zt : Nat × Nat × Nat) (g : Nat → ClassId) (r : Nat → Nat) : GM l D zt (tyM g) yX12_appends wz_m79_X12_appends ({ frames := 0, cells := 0, slots := 0, locals := 0 } : Room) [.long 356, .int 97] (wM r g (upd iM0 14 (-1)) (up3 (up3 (up3 (up3 aM0 13 0 2) 16 0 8) 13 1 2) 16 1 8) (up3L (up3L (up3L (up3L (up3L (up3L (up3L (up3L lM0 6 0 275647447) 6 1 9451996) 6 2 40477) 6 3 6491892) 6 4 70517) 6 5 847604) 6 6 5146) 6 7 286880)) (fun v _ w' => v = some (.long 9613) ∧ w' = wM r g (upd iM0 14 (-1)) (up3 (up3 (up3 (up3 aM0 13 0 2) 16 0 8) 13 1 2) 16 1 8) (up3L (up3L (up3L (up3L (up3L (up3L (up3L (up3L lM0 6 0 275647447) 6 1 9451996) 6 2 40477) 6 3 6491892) 6 4 70517) 6 5 847604) 6 6 5146) 6 7 286880)) 0 0 := by
  refine GM.of (cc := cX12_appends) (maxL := 3) (ret := (some .long)) (own := RX12) (lv := [(0, .long 356), (2, .int 97)]) (by decide) rfl rfl (Nat.le_of_ble_eq_true rfl) rfl (fun κ sz hk hR hN => ?_)
  refine g_iload_n hk dX12_appends_0 rfl ?_
  refine g_if_ne (tgt := 8) (a := 97) hk dX12_appends_1 (by decide) rfl (fun _ => ?_) (fun z9 => absurd (show (97 : Int) ≠ (0 : Int) from by decide) z9)
  refine g_ldc2 (v := 27) hk (List.mem_cons_of_mem _ (List.mem_append_left _ (List.mem_of_getElem? (i := 0) rfl))) dX12_appends_8 ?_
  refine g_lload_n hk dX12_appends_11 rfl ?_
  refine g_lmul hk dX12_appends_12 ?_
  refine g_norml (v := 9612) (by decide) ?_
  refine g_iload_n hk dX12_appends_13 rfl ?_
  refine g_bipush (v := 97) hk dX12_appends_14 (by decide) ?_
  refine g_isub hk dX12_appends_16 ?_
  refine g_norm (v := 0) (by decide) ?_
  refine g_iconst (v := 1) hk dX12_appends_17 (by decide) ?_
  refine g_iadd hk dX12_appends_18 ?_
  refine g_norm (v := 1) (by decide) ?_
  refine g_i2l (v := 1) hk dX12_appends_19 (by decide) ?_
  refine g_ladd hk dX12_appends_20 ?_
  refine g_norml (v := 9613) (by decide) ?_
  exact g_lret hk hR ⟨rfl, rfl⟩ dX12_appends_21
def wo_m80_X12_appends : List Cond := [Cond.constantLong RX12 133 (27)]
def wz_m80_X12_appends : List Cond := .code yX12_appends cX12_appends 3 (some .long) :: (wo_m80_X12_appends ++ ([] : List Cond))
theorem zg_m80_X12_appends : ∀ w ∈ wz_m80_X12_appends, goodWord w = true := zg_cons rfl (zg_app (by decide +kernel) zg_nil)
theorem zi_m80_X12_appends : ∀ w ∈ wz_m80_X12_appends, w ∈ lw_tbl := zi_cons zw_1370 (zi_app (zi_cons zw_1371 zi_nil) zi_nil)
set_option maxHeartbeats 4000000 in
set_option maxRecDepth 100000 in
theorem m80_X12_appends (l : Launch) (D : va_G) (zt : Nat × Nat × Nat) (g : Nat → ClassId) (r : Nat → Nat) : GM l D zt (tyM g) yX12_appends wz_m80_X12_appends ({ frames := 0, cells := 0, slots := 0, locals := 0 } : Room) [.long 9613, .int 110] (wM r g (upd iM0 14 (-1)) (up3 (up3 (up3 (up3 aM0 13 0 2) 16 0 8) 13 1 2) 16 1 8) (up3L (up3L (up3L (up3L (up3L (up3L (up3L (up3L lM0 6 0 275647447) 6 1 9451996) 6 2 40477) 6 3 6491892) 6 4 70517) 6 5 847604) 6 6 5146) 6 7 286880)) (fun v _ w' => v = some (.long 259565) ∧ w' = wM r g (upd iM0 14 (-1)) (up3 (up3 (up3 (up3 aM0 13 0 2) 16 0 8) 13 1 2) 16 1 8) (up3L (up3L (up3L (up3L (up3L (up3L (up3L (up3L lM0 6 0 275647447) 6 1 9451996) 6 2 40477) 6 3 6491892) 6 4 70517) 6 5 847604) 6 6 5146) 6 7 286880)) 0 0 := by
  refine GM.of (cc := cX12_appends) (maxL := 3) (ret := (some .long)) (own := RX12) (lv := [(0, .long 9613), (2, .int 110)]) (by decide) rfl rfl (Nat.le_of_ble_eq_true rfl) rfl (fun κ sz hk hR hN => ?_)
  refine g_iload_n hk dX12_appends_0 rfl ?_
  refine g_if_ne (tgt := 8) (a := 110) hk dX12_appends_1 (by decide) rfl (fun _ => ?_) (fun z9 => absurd (show (110 : Int) ≠ (0 : Int) from by decide) z9)
  refine g_ldc2 (v := 27) hk (List.mem_cons_of_mem _ (List.mem_append_left _ (List.mem_of_getElem? (i := 0) rfl))) dX12_appends_8 ?_
  refine g_lload_n hk dX12_appends_11 rfl ?_
  refine g_lmul hk dX12_appends_12 ?_
  refine g_norml (v := 259551) (by decide) ?_
  refine g_iload_n hk dX12_appends_13 rfl ?_
  refine g_bipush (v := 97) hk dX12_appends_14 (by decide) ?_
  refine g_isub hk dX12_appends_16 ?_
  refine g_norm (v := 13) (by decide) ?_
  refine g_iconst (v := 1) hk dX12_appends_17 (by decide) ?_
  refine g_iadd hk dX12_appends_18 ?_
  refine g_norm (v := 14) (by decide) ?_
  refine g_i2l (v := 14) hk dX12_appends_19 (by decide) ?_
  refine g_ladd hk dX12_appends_20 ?_
  refine g_norml (v := 259565) (by decide) ?_
  exact g_lret hk hR ⟨rfl, rfl⟩ dX12_appends_21
def wo_m81_X12_appends : List Cond := []
def wz_m81_X12_appends : List Cond := .code yX12_appends cX12_appends 3 (some .long) :: (wo_m81_X12_appends ++ ([] : List Cond))
theorem zg_m81_X12_appends : ∀ w ∈ wz_m81_X12_appends, goodWord w = true := zg_cons rfl (zg_app (by decide +kernel) zg_nil)
theorem zi_m81_X12_appends : ∀ w ∈ wz_m81_X12_appends, w ∈ lw_tbl := zi_cons zw_1370 (zi_app zi_nil zi_nil)
set_option maxHeartbeats 4000000 in
set_option maxRecDepth 100000 in
theorem m81_X12_appends (l : Launch) (D : va_G) (zt : Nat × Nat × Nat) (g : Nat → ClassId) (r : Nat → Nat) : GM l D zt (tyM g) yX12_appends wz_m81_X12_appends ({ frames := 0, cells := 0, slots := 0, locals := 0 } : Room) [.long 259565, .int 0] (wM r g (upd iM0 14 (-1)) (up3 (up3 (up3 (up3 aM0 13 0 2) 16 0 8) 13 1 2) 16 1 8) (up3L (up3L (up3L (up3L (up3L (up3L (up3L (up3L lM0 6 0 275647447) 6 1 9451996) 6 2 40477) 6 3 6491892) 6 4 70517) 6 5 847604) 6 6 5146) 6 7 286880)) (fun v _ w' => v = some (.long 259565) ∧ w' = wM r g (upd iM0 14 (-1)) (up3 (up3 (up3 (up3 aM0 13 0 2) 16 0 8) 13 1 2) 16 1 8) (up3L (up3L (up3L (up3L (up3L (up3L (up3L (up3L lM0 6 0 275647447) 6 1 9451996) 6 2 40477) 6 3 6491892) 6 4 70517) 6 5 847604) 6 6 5146) 6 7 286880)) 0 0 := by
  refine GM.of (cc := cX12_appends) (maxL := 3) (ret := (some .long)) (own := RX12) (lv := [(0, .long 259565), (2, .int 0)]) (by decide) rfl rfl (Nat.le_of_ble_eq_true rfl) rfl (fun κ sz hk hR hN => ?_)
  refine g_iload_n hk dX12_appends_0 rfl ?_
  refine g_if_ne (tgt := 8) (a := 0) hk dX12_appends_1 (by decide) rfl (fun z9 => absurd z9 (show ¬ ((0 : Int) ≠ (0 : Int)) from by decide)) (fun _ => ?_)
  refine g_lload_n hk dX12_appends_4 rfl ?_
  refine g_goto (tgt := 21) hk dX12_appends_5 (by decide) ?_
  exact g_lret hk hR ⟨rfl, rfl⟩ dX12_appends_21
def wo_m76_X12_letters : List Cond := [Cond.methodLink RX12 135 yX12_appends, Cond.static yX12_appends, Cond.initialized RX12]
def wz_m76_X12_letters : List Cond := .code yX12_letters cX12_letters 7 (some .long) :: (wo_m76_X12_letters ++ (wz_m77_X12_appends ++ (wz_m78_X12_appends ++ (wz_m79_X12_appends ++ (wz_m80_X12_appends ++ (wz_m81_X12_appends ++ ([] : List Cond)))))))
theorem zg_m76_X12_letters : ∀ w ∈ wz_m76_X12_letters, goodWord w = true := zg_cons rfl (zg_app (by decide +kernel) (zg_app zg_m77_X12_appends (zg_app zg_m78_X12_appends (zg_app zg_m79_X12_appends (zg_app zg_m80_X12_appends (zg_app zg_m81_X12_appends zg_nil))))))
theorem zi_m76_X12_letters : ∀ w ∈ wz_m76_X12_letters, w ∈ lw_tbl := zi_cons zw_1367 (zi_app (zi_cons zw_1368 (zi_cons zw_1369 (zi_cons zw_115 zi_nil))) (zi_app zi_m77_X12_appends (zi_app zi_m78_X12_appends (zi_app zi_m79_X12_appends (zi_app zi_m80_X12_appends (zi_app zi_m81_X12_appends zi_nil))))))
set_option maxHeartbeats 4000000 in
set_option maxRecDepth 100000 in
theorem m76_X12_letters (l : Launch) (D : va_G) (zt : Nat × Nat × Nat) (g : Nat → ClassId) (r : Nat → Nat) : GM l D zt (tyM g) yX12_letters wz_m76_X12_letters ({ frames := 1, cells := 0, slots := 0, locals := 22 } : Room) [.int 109, .int 101, .int 97, .int 110, .int 0, .int 0, .int 0] (wM r g (upd iM0 14 (-1)) (up3 (up3 (up3 (up3 aM0 13 0 2) 16 0 8) 13 1 2) 16 1 8) (up3L (up3L (up3L (up3L (up3L (up3L (up3L (up3L lM0 6 0 275647447) 6 1 9451996) 6 2 40477) 6 3 6491892) 6 4 70517) 6 5 847604) 6 6 5146) 6 7 286880)) (fun v _ w' => v = some (.long 259565) ∧ w' = wM r g (upd iM0 14 (-1)) (up3 (up3 (up3 (up3 aM0 13 0 2) 16 0 8) 13 1 2) 16 1 8) (up3L (up3L (up3L (up3L (up3L (up3L (up3L (up3L lM0 6 0 275647447) 6 1 9451996) 6 2 40477) 6 3 6491892) 6 4 70517) 6 5 847604) 6 6 5146) 6 7 286880)) 0 0 := by
  refine GM.of (cc := cX12_letters) (maxL := 7) (ret := (some .long)) (own := RX12) (lv := [(0, .int 109), (1, .int 101), (2, .int 97), (3, .int 110), (4, .int 0), (5, .int 0), (6, .int 0)]) (by decide) rfl rfl (Nat.le_of_ble_eq_true rfl) rfl (fun κ sz hk hR hN => ?_)
  refine g_lconst (v := 0) hk dX12_letters_0 (by decide) ?_
  refine g_iload_n hk dX12_letters_1 rfl ?_
  refine g_callS (n := 2) hk (m77_X12_appends l D zt g r) (SP.same _) (fun _ h => h) (gi_S (List.mem_cons_of_mem _ (List.mem_append_left _ (List.mem_of_getElem? (i := 0) rfl))) (List.mem_cons_of_mem _ (List.mem_append_left _ (List.mem_of_getElem? (i := 1) rfl))) (List.mem_cons_of_mem _ (List.mem_append_left _ (List.mem_of_getElem? (i := 2) rfl))) (gi_sub (fun w h => (List.mem_cons_of_mem _ (List.mem_append_right _ (List.mem_append_left _ h)))) zg_m77_X12_appends)) rfl rfl rfl (by decide +kernel) ⟨Nat.le_of_ble_eq_true rfl, Nat.le_of_ble_eq_true rfl⟩ rfl rfl (Nat.le_of_ble_eq_true rfl) ⟨Nat.le_of_ble_eq_true rfl, Nat.le_of_ble_eq_true rfl⟩ dX12_letters_2 (fun v ty' w' hp hk' => ?_)
  obtain ⟨rfl, rfl⟩ := hp
  show GW κ 7 0 0 (wM r g (upd iM0 14 (-1)) (up3 (up3 (up3 (up3 aM0 13 0 2) 16 0 8) 13 1 2) 16 1 8) (up3L (up3L (up3L (up3L (up3L (up3L (up3L (up3L lM0 6 0 275647447) 6 1 9451996) 6 2 40477) 6 3 6491892) 6 4 70517) 6 5 847604) 6 6 5146) 6 7 286880)) 5 [(0, .int 109), (1, .int 101), (2, .int 97), (3, .int 110), (4, .int 0), (5, .int 0), (6, .int 0)] [.long 13]
  refine g_iload_n hk dX12_letters_5 rfl ?_
  refine g_callS (n := 2) hk (m78_X12_appends l D zt g r) (SP.same _) (fun _ h => h) (gi_S (List.mem_cons_of_mem _ (List.mem_append_left _ (List.mem_of_getElem? (i := 0) rfl))) (List.mem_cons_of_mem _ (List.mem_append_left _ (List.mem_of_getElem? (i := 1) rfl))) (List.mem_cons_of_mem _ (List.mem_append_left _ (List.mem_of_getElem? (i := 2) rfl))) (gi_sub (fun w h => (List.mem_cons_of_mem _ (List.mem_append_right _ (List.mem_append_right _ (List.mem_append_left _ h))))) zg_m78_X12_appends)) rfl rfl rfl (by decide +kernel) ⟨Nat.le_of_ble_eq_true rfl, Nat.le_of_ble_eq_true rfl⟩ rfl rfl (Nat.le_of_ble_eq_true rfl) ⟨Nat.le_of_ble_eq_true rfl, Nat.le_of_ble_eq_true rfl⟩ dX12_letters_6 (fun v ty' w' hp hk' => ?_)
  obtain ⟨rfl, rfl⟩ := hp
  show GW κ 7 0 0 (wM r g (upd iM0 14 (-1)) (up3 (up3 (up3 (up3 aM0 13 0 2) 16 0 8) 13 1 2) 16 1 8) (up3L (up3L (up3L (up3L (up3L (up3L (up3L (up3L lM0 6 0 275647447) 6 1 9451996) 6 2 40477) 6 3 6491892) 6 4 70517) 6 5 847604) 6 6 5146) 6 7 286880)) 9 [(0, .int 109), (1, .int 101), (2, .int 97), (3, .int 110), (4, .int 0), (5, .int 0), (6, .int 0)] [.long 356]
  refine g_iload_n hk dX12_letters_9 rfl ?_
  refine g_callS (n := 2) hk (m79_X12_appends l D zt g r) (SP.same _) (fun _ h => h) (gi_S (List.mem_cons_of_mem _ (List.mem_append_left _ (List.mem_of_getElem? (i := 0) rfl))) (List.mem_cons_of_mem _ (List.mem_append_left _ (List.mem_of_getElem? (i := 1) rfl))) (List.mem_cons_of_mem _ (List.mem_append_left _ (List.mem_of_getElem? (i := 2) rfl))) (gi_sub (fun w h => (List.mem_cons_of_mem _ (List.mem_append_right _ (List.mem_append_right _ (List.mem_append_right _ (List.mem_append_left _ h)))))) zg_m79_X12_appends)) rfl rfl rfl (by decide +kernel) ⟨Nat.le_of_ble_eq_true rfl, Nat.le_of_ble_eq_true rfl⟩ rfl rfl (Nat.le_of_ble_eq_true rfl) ⟨Nat.le_of_ble_eq_true rfl, Nat.le_of_ble_eq_true rfl⟩ dX12_letters_10 (fun v ty' w' hp hk' => ?_)
  obtain ⟨rfl, rfl⟩ := hp
  show GW κ 7 0 0 (wM r g (upd iM0 14 (-1)) (up3 (up3 (up3 (up3 aM0 13 0 2) 16 0 8) 13 1 2) 16 1 8) (up3L (up3L (up3L (up3L (up3L (up3L (up3L (up3L lM0 6 0 275647447) 6 1 9451996) 6 2 40477) 6 3 6491892) 6 4 70517) 6 5 847604) 6 6 5146) 6 7 286880)) 13 [(0, .int 109), (1, .int 101), (2, .int 97), (3, .int 110), (4, .int 0), (5, .int 0), (6, .int 0)] [.long 9613]
  refine g_iload_n hk dX12_letters_13 rfl ?_
  refine g_callS (n := 2) hk (m80_X12_appends l D zt g r) (SP.same _) (fun _ h => h) (gi_S (List.mem_cons_of_mem _ (List.mem_append_left _ (List.mem_of_getElem? (i := 0) rfl))) (List.mem_cons_of_mem _ (List.mem_append_left _ (List.mem_of_getElem? (i := 1) rfl))) (List.mem_cons_of_mem _ (List.mem_append_left _ (List.mem_of_getElem? (i := 2) rfl))) (gi_sub (fun w h => (List.mem_cons_of_mem _ (List.mem_append_right _ (List.mem_append_right _ (List.mem_append_right _ (List.mem_append_right _ (List.mem_append_left _ h))))))) zg_m80_X12_appends)) rfl rfl rfl (by decide +kernel) ⟨Nat.le_of_ble_eq_true rfl, Nat.le_of_ble_eq_true rfl⟩ rfl rfl (Nat.le_of_ble_eq_true rfl) ⟨Nat.le_of_ble_eq_true rfl, Nat.le_of_ble_eq_true rfl⟩ dX12_letters_14 (fun v ty' w' hp hk' => ?_)
  obtain ⟨rfl, rfl⟩ := hp
  show GW κ 7 0 0 (wM r g (upd iM0 14 (-1)) (up3 (up3 (up3 (up3 aM0 13 0 2) 16 0 8) 13 1 2) 16 1 8) (up3L (up3L (up3L (up3L (up3L (up3L (up3L (up3L lM0 6 0 275647447) 6 1 9451996) 6 2 40477) 6 3 6491892) 6 4 70517) 6 5 847604) 6 6 5146) 6 7 286880)) 17 [(0, .int 109), (1, .int 101), (2, .int 97), (3, .int 110), (4, .int 0), (5, .int 0), (6, .int 0)] [.long 259565]
  refine g_iload hk dX12_letters_17 rfl ?_
  refine g_callS (n := 2) hk (m81_X12_appends l D zt g r) (SP.same _) (fun _ h => h) (gi_S (List.mem_cons_of_mem _ (List.mem_append_left _ (List.mem_of_getElem? (i := 0) rfl))) (List.mem_cons_of_mem _ (List.mem_append_left _ (List.mem_of_getElem? (i := 1) rfl))) (List.mem_cons_of_mem _ (List.mem_append_left _ (List.mem_of_getElem? (i := 2) rfl))) (gi_sub (fun w h => (List.mem_cons_of_mem _ (List.mem_append_right _ (List.mem_append_right _ (List.mem_append_right _ (List.mem_append_right _ (List.mem_append_right _ (List.mem_append_left _ h)))))))) zg_m81_X12_appends)) rfl rfl rfl (by decide +kernel) ⟨Nat.le_of_ble_eq_true rfl, Nat.le_of_ble_eq_true rfl⟩ rfl rfl (Nat.le_of_ble_eq_true rfl) ⟨Nat.le_of_ble_eq_true rfl, Nat.le_of_ble_eq_true rfl⟩ dX12_letters_19 (fun v ty' w' hp hk' => ?_)
  obtain ⟨rfl, rfl⟩ := hp
  show GW κ 7 0 0 (wM r g (upd iM0 14 (-1)) (up3 (up3 (up3 (up3 aM0 13 0 2) 16 0 8) 13 1 2) 16 1 8) (up3L (up3L (up3L (up3L (up3L (up3L (up3L (up3L lM0 6 0 275647447) 6 1 9451996) 6 2 40477) 6 3 6491892) 6 4 70517) 6 5 847604) 6 6 5146) 6 7 286880)) 22 [(0, .int 109), (1, .int 101), (2, .int 97), (3, .int 110), (4, .int 0), (5, .int 0), (6, .int 0)] [.long 259565]
  refine g_iload hk dX12_letters_22 rfl ?_
  refine g_callS (n := 2) hk (m81_X12_appends l D zt g r) (SP.same _) (fun _ h => h) (gi_S (List.mem_cons_of_mem _ (List.mem_append_left _ (List.mem_of_getElem? (i := 0) rfl))) (List.mem_cons_of_mem _ (List.mem_append_left _ (List.mem_of_getElem? (i := 1) rfl))) (List.mem_cons_of_mem _ (List.mem_append_left _ (List.mem_of_getElem? (i := 2) rfl))) (gi_sub (fun w h => (List.mem_cons_of_mem _ (List.mem_append_right _ (List.mem_append_right _ (List.mem_append_right _ (List.mem_append_right _ (List.mem_append_right _ (List.mem_append_left _ h)))))))) zg_m81_X12_appends)) rfl rfl rfl (by decide +kernel) ⟨Nat.le_of_ble_eq_true rfl, Nat.le_of_ble_eq_true rfl⟩ rfl rfl (Nat.le_of_ble_eq_true rfl) ⟨Nat.le_of_ble_eq_true rfl, Nat.le_of_ble_eq_true rfl⟩ dX12_letters_24 (fun v ty' w' hp hk' => ?_)
  obtain ⟨rfl, rfl⟩ := hp
  show GW κ 7 0 0 (wM r g (upd iM0 14 (-1)) (up3 (up3 (up3 (up3 aM0 13 0 2) 16 0 8) 13 1 2) 16 1 8) (up3L (up3L (up3L (up3L (up3L (up3L (up3L (up3L lM0 6 0 275647447) 6 1 9451996) 6 2 40477) 6 3 6491892) 6 4 70517) 6 5 847604) 6 6 5146) 6 7 286880)) 27 [(0, .int 109), (1, .int 101), (2, .int 97), (3, .int 110), (4, .int 0), (5, .int 0), (6, .int 0)] [.long 259565]
  refine g_iload hk dX12_letters_27 rfl ?_
  refine g_callS (n := 2) hk (m81_X12_appends l D zt g r) (SP.same _) (fun _ h => h) (gi_S (List.mem_cons_of_mem _ (List.mem_append_left _ (List.mem_of_getElem? (i := 0) rfl))) (List.mem_cons_of_mem _ (List.mem_append_left _ (List.mem_of_getElem? (i := 1) rfl))) (List.mem_cons_of_mem _ (List.mem_append_left _ (List.mem_of_getElem? (i := 2) rfl))) (gi_sub (fun w h => (List.mem_cons_of_mem _ (List.mem_append_right _ (List.mem_append_right _ (List.mem_append_right _ (List.mem_append_right _ (List.mem_append_right _ (List.mem_append_left _ h)))))))) zg_m81_X12_appends)) rfl rfl rfl (by decide +kernel) ⟨Nat.le_of_ble_eq_true rfl, Nat.le_of_ble_eq_true rfl⟩ rfl rfl (Nat.le_of_ble_eq_true rfl) ⟨Nat.le_of_ble_eq_true rfl, Nat.le_of_ble_eq_true rfl⟩ dX12_letters_29 (fun v ty' w' hp hk' => ?_)
  obtain ⟨rfl, rfl⟩ := hp
  show GW κ 7 0 0 (wM r g (upd iM0 14 (-1)) (up3 (up3 (up3 (up3 aM0 13 0 2) 16 0 8) 13 1 2) 16 1 8) (up3L (up3L (up3L (up3L (up3L (up3L (up3L (up3L lM0 6 0 275647447) 6 1 9451996) 6 2 40477) 6 3 6491892) 6 4 70517) 6 5 847604) 6 6 5146) 6 7 286880)) 32 [(0, .int 109), (1, .int 101), (2, .int 97), (3, .int 110), (4, .int 0), (5, .int 0), (6, .int 0)] [.long 259565]
  exact g_lret hk hR ⟨rfl, rfl⟩ dX12_letters_32
def wo_m83_X12_appends : List Cond := [Cond.constantLong RX12 133 (27)]
def wz_m83_X12_appends : List Cond := .code yX12_appends cX12_appends 3 (some .long) :: (wo_m83_X12_appends ++ ([] : List Cond))
theorem zg_m83_X12_appends : ∀ w ∈ wz_m83_X12_appends, goodWord w = true := zg_cons rfl (zg_app (by decide +kernel) zg_nil)
theorem zi_m83_X12_appends : ∀ w ∈ wz_m83_X12_appends, w ∈ lw_tbl := zi_cons zw_1370 (zi_app (zi_cons zw_1371 zi_nil) zi_nil)
set_option maxHeartbeats 4000000 in
set_option maxRecDepth 100000 in
theorem m83_X12_appends (l : Launch) (D : va_G) (zt : Nat × Nat × Nat) (g : Nat → ClassId) (r : Nat → Nat) : GM l D zt (tyM g) yX12_appends wz_m83_X12_appends ({ frames := 0, cells := 0, slots := 0, locals := 0 } : Room) [.long 0, .int 102] (wM r g (upd iM0 14 (-1)) (up3 (up3 (up3 (up3 aM0 13 0 2) 16 0 8) 13 1 2) 16 1 8) (up3L (up3L (up3L (up3L (up3L (up3L (up3L (up3L (up3L lM0 6 0 275647447) 6 1 9451996) 6 2 40477) 6 3 6491892) 6 4 70517) 6 5 847604) 6 6 5146) 6 7 286880) 6 8 259565)) (fun v _ w' => v = some (.long 6) ∧ w' = wM r g (upd iM0 14 (-1)) (up3 (up3 (up3 (up3 aM0 13 0 2) 16 0 8) 13 1 2) 16 1 8) (up3L (up3L (up3L (up3L (up3L (up3L (up3L (up3L (up3L lM0 6 0 275647447) 6 1 9451996) 6 2 40477) 6 3 6491892) 6 4 70517) 6 5 847604) 6 6 5146) 6 7 286880) 6 8 259565)) 0 0 := by
  refine GM.of (cc := cX12_appends) (maxL := 3) (ret := (some .long)) (own := RX12) (lv := [(0, .long 0), (2, .int 102)]) (by decide) rfl rfl (Nat.le_of_ble_eq_true rfl) rfl (fun κ sz hk hR hN => ?_)
  refine g_iload_n hk dX12_appends_0 rfl ?_
  refine g_if_ne (tgt := 8) (a := 102) hk dX12_appends_1 (by decide) rfl (fun _ => ?_) (fun z9 => absurd (show (102 : Int) ≠ (0 : Int) from by decide) z9)
  refine g_ldc2 (v := 27) hk (List.mem_cons_of_mem _ (List.mem_append_left _ (List.mem_of_getElem? (i := 0) rfl))) dX12_appends_8 ?_
  refine g_lload_n hk dX12_appends_11 rfl ?_
  refine g_lmul hk dX12_appends_12 ?_
  refine g_norml (v := 0) (by decide) ?_
  refine g_iload_n hk dX12_appends_13 rfl ?_
  refine g_bipush (v := 97) hk dX12_appends_14 (by decide) ?_
  refine g_isub hk dX12_appends_16 ?_
  refine g_norm (v := 5) (by decide) ?_
  refine g_iconst (v := 1) hk dX12_appends_17 (by decide) ?_
  refine g_iadd hk dX12_appends_18 ?_
  refine g_norm (v := 6) (by decide) ?_
  refine g_i2l (v := 6) hk dX12_appends_19 (by decide) ?_
  refine g_ladd hk dX12_appends_20 ?_
  refine g_norml (v := 6) (by decide) ?_
  exact g_lret hk hR ⟨rfl, rfl⟩ dX12_appends_21
def wo_m84_X12_appends : List Cond := [Cond.constantLong RX12 133 (27)]
def wz_m84_X12_appends : List Cond := .code yX12_appends cX12_appends 3 (some .long) :: (wo_m84_X12_appends ++ ([] : List Cond))
theorem zg_m84_X12_appends : ∀ w ∈ wz_m84_X12_appends, goodWord w = true := zg_cons rfl (zg_app (by decide +kernel) zg_nil)
theorem zi_m84_X12_appends : ∀ w ∈ wz_m84_X12_appends, w ∈ lw_tbl := zi_cons zw_1370 (zi_app (zi_cons zw_1371 zi_nil) zi_nil)
set_option maxHeartbeats 4000000 in
set_option maxRecDepth 100000 in
theorem m84_X12_appends (l : Launch) (D : va_G) (zt : Nat × Nat × Nat) (g : Nat → ClassId) (r : Nat → Nat) : GM l D zt (tyM g) yX12_appends wz_m84_X12_appends ({ frames := 0, cells := 0, slots := 0, locals := 0 } : Room) [.long 6, .int 105] (wM r g (upd iM0 14 (-1)) (up3 (up3 (up3 (up3 aM0 13 0 2) 16 0 8) 13 1 2) 16 1 8) (up3L (up3L (up3L (up3L (up3L (up3L (up3L (up3L (up3L lM0 6 0 275647447) 6 1 9451996) 6 2 40477) 6 3 6491892) 6 4 70517) 6 5 847604) 6 6 5146) 6 7 286880) 6 8 259565)) (fun v _ w' => v = some (.long 171) ∧ w' = wM r g (upd iM0 14 (-1)) (up3 (up3 (up3 (up3 aM0 13 0 2) 16 0 8) 13 1 2) 16 1 8) (up3L (up3L (up3L (up3L (up3L (up3L (up3L (up3L (up3L lM0 6 0 275647447) 6 1 9451996) 6 2 40477) 6 3 6491892) 6 4 70517) 6 5 847604) 6 6 5146) 6 7 286880) 6 8 259565)) 0 0 := by
  refine GM.of (cc := cX12_appends) (maxL := 3) (ret := (some .long)) (own := RX12) (lv := [(0, .long 6), (2, .int 105)]) (by decide) rfl rfl (Nat.le_of_ble_eq_true rfl) rfl (fun κ sz hk hR hN => ?_)
  refine g_iload_n hk dX12_appends_0 rfl ?_
  refine g_if_ne (tgt := 8) (a := 105) hk dX12_appends_1 (by decide) rfl (fun _ => ?_) (fun z9 => absurd (show (105 : Int) ≠ (0 : Int) from by decide) z9)
  refine g_ldc2 (v := 27) hk (List.mem_cons_of_mem _ (List.mem_append_left _ (List.mem_of_getElem? (i := 0) rfl))) dX12_appends_8 ?_
  refine g_lload_n hk dX12_appends_11 rfl ?_
  refine g_lmul hk dX12_appends_12 ?_
  refine g_norml (v := 162) (by decide) ?_
  refine g_iload_n hk dX12_appends_13 rfl ?_
  refine g_bipush (v := 97) hk dX12_appends_14 (by decide) ?_
  refine g_isub hk dX12_appends_16 ?_
  refine g_norm (v := 8) (by decide) ?_
  refine g_iconst (v := 1) hk dX12_appends_17 (by decide) ?_
  refine g_iadd hk dX12_appends_18 ?_
  refine g_norm (v := 9) (by decide) ?_
  refine g_i2l (v := 9) hk dX12_appends_19 (by decide) ?_
  refine g_ladd hk dX12_appends_20 ?_
  refine g_norml (v := 171) (by decide) ?_
  exact g_lret hk hR ⟨rfl, rfl⟩ dX12_appends_21
def wo_m85_X12_appends : List Cond := [Cond.constantLong RX12 133 (27)]
def wz_m85_X12_appends : List Cond := .code yX12_appends cX12_appends 3 (some .long) :: (wo_m85_X12_appends ++ ([] : List Cond))
theorem zg_m85_X12_appends : ∀ w ∈ wz_m85_X12_appends, goodWord w = true := zg_cons rfl (zg_app (by decide +kernel) zg_nil)
theorem zi_m85_X12_appends : ∀ w ∈ wz_m85_X12_appends, w ∈ lw_tbl := zi_cons zw_1370 (zi_app (zi_cons zw_1371 zi_nil) zi_nil)
set_option maxHeartbeats 4000000 in
set_option maxRecDepth 100000 in
theorem m85_X12_appends (l : Launch) (D : va_G) (zt : Nat × Nat × Nat) (g : Nat → ClassId) (r : Nat → Nat) : GM l D zt (tyM g) yX12_appends wz_m85_X12_appends ({ frames := 0, cells := 0, slots := 0, locals := 0 } : Room) [.long 171, .int 114] (wM r g (upd iM0 14 (-1)) (up3 (up3 (up3 (up3 aM0 13 0 2) 16 0 8) 13 1 2) 16 1 8) (up3L (up3L (up3L (up3L (up3L (up3L (up3L (up3L (up3L lM0 6 0 275647447) 6 1 9451996) 6 2 40477) 6 3 6491892) 6 4 70517) 6 5 847604) 6 6 5146) 6 7 286880) 6 8 259565)) (fun v _ w' => v = some (.long 4635) ∧ w' = wM r g (upd iM0 14 (-1)) (up3 (up3 (up3 (up3 aM0 13 0 2) 16 0 8) 13 1 2) 16 1 8) (up3L (up3L (up3L (up3L (up3L (up3L (up3L (up3L (up3L lM0 6 0 275647447) 6 1 9451996) 6 2 40477) 6 3 6491892) 6 4 70517) 6 5 847604) 6 6 5146) 6 7 286880) 6 8 259565)) 0 0 := by
  refine GM.of (cc := cX12_appends) (maxL := 3) (ret := (some .long)) (own := RX12) (lv := [(0, .long 171), (2, .int 114)]) (by decide) rfl rfl (Nat.le_of_ble_eq_true rfl) rfl (fun κ sz hk hR hN => ?_)
  refine g_iload_n hk dX12_appends_0 rfl ?_
  refine g_if_ne (tgt := 8) (a := 114) hk dX12_appends_1 (by decide) rfl (fun _ => ?_) (fun z9 => absurd (show (114 : Int) ≠ (0 : Int) from by decide) z9)
  refine g_ldc2 (v := 27) hk (List.mem_cons_of_mem _ (List.mem_append_left _ (List.mem_of_getElem? (i := 0) rfl))) dX12_appends_8 ?_
  refine g_lload_n hk dX12_appends_11 rfl ?_
  refine g_lmul hk dX12_appends_12 ?_
  refine g_norml (v := 4617) (by decide) ?_
  refine g_iload_n hk dX12_appends_13 rfl ?_
  refine g_bipush (v := 97) hk dX12_appends_14 (by decide) ?_
  refine g_isub hk dX12_appends_16 ?_
  refine g_norm (v := 17) (by decide) ?_
  refine g_iconst (v := 1) hk dX12_appends_17 (by decide) ?_
  refine g_iadd hk dX12_appends_18 ?_
  refine g_norm (v := 18) (by decide) ?_
  refine g_i2l (v := 18) hk dX12_appends_19 (by decide) ?_
  refine g_ladd hk dX12_appends_20 ?_
  refine g_norml (v := 4635) (by decide) ?_
  exact g_lret hk hR ⟨rfl, rfl⟩ dX12_appends_21
def wo_m86_X12_appends : List Cond := [Cond.constantLong RX12 133 (27)]
def wz_m86_X12_appends : List Cond := .code yX12_appends cX12_appends 3 (some .long) :: (wo_m86_X12_appends ++ ([] : List Cond))
theorem zg_m86_X12_appends : ∀ w ∈ wz_m86_X12_appends, goodWord w = true := zg_cons rfl (zg_app (by decide +kernel) zg_nil)
theorem zi_m86_X12_appends : ∀ w ∈ wz_m86_X12_appends, w ∈ lw_tbl := zi_cons zw_1370 (zi_app (zi_cons zw_1371 zi_nil) zi_nil)
set_option maxHeartbeats 4000000 in
set_option maxRecDepth 100000 in
theorem m86_X12_appends (l : Launch) (D : va_G) (zt : Nat × Nat × Nat) (g : Nat → ClassId) (r : Nat → Nat) : GM l D zt (tyM g) yX12_appends wz_m86_X12_appends ({ frames := 0, cells := 0, slots := 0, locals := 0 } : Room) [.long 4635, .int 115] (wM r g (upd iM0 14 (-1)) (up3 (up3 (up3 (up3 aM0 13 0 2) 16 0 8) 13 1 2) 16 1 8) (up3L (up3L (up3L (up3L (up3L (up3L (up3L (up3L (up3L lM0 6 0 275647447) 6 1 9451996) 6 2 40477) 6 3 6491892) 6 4 70517) 6 5 847604) 6 6 5146) 6 7 286880) 6 8 259565)) (fun v _ w' => v = some (.long 125164) ∧ w' = wM r g (upd iM0 14 (-1)) (up3 (up3 (up3 (up3 aM0 13 0 2) 16 0 8) 13 1 2) 16 1 8) (up3L (up3L (up3L (up3L (up3L (up3L (up3L (up3L (up3L lM0 6 0 275647447) 6 1 9451996) 6 2 40477) 6 3 6491892) 6 4 70517) 6 5 847604) 6 6 5146) 6 7 286880) 6 8 259565)) 0 0 := by
  refine GM.of (cc := cX12_appends) (maxL := 3) (ret := (some .long)) (own := RX12) (lv := [(0, .long 4635), (2, .int 115)]) (by decide) rfl rfl (Nat.le_of_ble_eq_true rfl) rfl (fun κ sz hk hR hN => ?_)
  refine g_iload_n hk dX12_appends_0 rfl ?_
  refine g_if_ne (tgt := 8) (a := 115) hk dX12_appends_1 (by decide) rfl (fun _ => ?_) (fun z9 => absurd (show (115 : Int) ≠ (0 : Int) from by decide) z9)
  refine g_ldc2 (v := 27) hk (List.mem_cons_of_mem _ (List.mem_append_left _ (List.mem_of_getElem? (i := 0) rfl))) dX12_appends_8 ?_
  refine g_lload_n hk dX12_appends_11 rfl ?_
  refine g_lmul hk dX12_appends_12 ?_
  refine g_norml (v := 125145) (by decide) ?_
  refine g_iload_n hk dX12_appends_13 rfl ?_
  refine g_bipush (v := 97) hk dX12_appends_14 (by decide) ?_
  refine g_isub hk dX12_appends_16 ?_
  refine g_norm (v := 18) (by decide) ?_
  refine g_iconst (v := 1) hk dX12_appends_17 (by decide) ?_
  refine g_iadd hk dX12_appends_18 ?_
  refine g_norm (v := 19) (by decide) ?_
  refine g_i2l (v := 19) hk dX12_appends_19 (by decide) ?_
  refine g_ladd hk dX12_appends_20 ?_
  refine g_norml (v := 125164) (by decide) ?_
  exact g_lret hk hR ⟨rfl, rfl⟩ dX12_appends_21
def wo_m87_X12_appends : List Cond := [Cond.constantLong RX12 133 (27)]
def wz_m87_X12_appends : List Cond := .code yX12_appends cX12_appends 3 (some .long) :: (wo_m87_X12_appends ++ ([] : List Cond))
theorem zg_m87_X12_appends : ∀ w ∈ wz_m87_X12_appends, goodWord w = true := zg_cons rfl (zg_app (by decide +kernel) zg_nil)
theorem zi_m87_X12_appends : ∀ w ∈ wz_m87_X12_appends, w ∈ lw_tbl := zi_cons zw_1370 (zi_app (zi_cons zw_1371 zi_nil) zi_nil)
set_option maxHeartbeats 4000000 in
set_option maxRecDepth 100000 in
theorem m87_X12_appends (l : Launch) (D : va_G) (zt : Nat × Nat × Nat) (g : Nat → ClassId) (r : Nat → Nat) : GM l D zt (tyM g) yX12_appends wz_m87_X12_appends ({ frames := 0, cells := 0, slots := 0, locals := 0 } : Room) [.long 125164, .int 116] (wM r g (upd iM0 14 (-1)) (up3 (up3 (up3 (up3 aM0 13 0 2) 16 0 8) 13 1 2) 16 1 8) (up3L (up3L (up3L (up3L (up3L (up3L (up3L (up3L (up3L lM0 6 0 275647447) 6 1 9451996) 6 2 40477) 6 3 6491892) 6 4 70517) 6 5 847604) 6 6 5146) 6 7 286880) 6 8 259565)) (fun v _ w' => v = some (.long 3379448) ∧ w' = wM r g (upd iM0 14 (-1)) (up3 (up3 (up3 (up3 aM0 13 0 2) 16 0 8) 13 1 2) 16 1 8) (up3L (up3L (up3L (up3L (up3L (up3L (up3L (up3L (up3L lM0 6 0 275647447) 6 1 9451996) 6 2 40477) 6 3 6491892) 6 4 70517) 6 5 847604) 6 6 5146) 6 7 286880) 6 8 259565)) 0 0 := by
  refine GM.of (cc := cX12_appends) (maxL := 3) (ret := (some .long)) (own := RX12) (lv := [(0, .long 125164), (2, .int 116)]) (by decide) rfl rfl (Nat.le_of_ble_eq_true rfl) rfl (fun κ sz hk hR hN => ?_)
  refine g_iload_n hk dX12_appends_0 rfl ?_
  refine g_if_ne (tgt := 8) (a := 116) hk dX12_appends_1 (by decide) rfl (fun _ => ?_) (fun z9 => absurd (show (116 : Int) ≠ (0 : Int) from by decide) z9)
  refine g_ldc2 (v := 27) hk (List.mem_cons_of_mem _ (List.mem_append_left _ (List.mem_of_getElem? (i := 0) rfl))) dX12_appends_8 ?_
  refine g_lload_n hk dX12_appends_11 rfl ?_
  refine g_lmul hk dX12_appends_12 ?_
  refine g_norml (v := 3379428) (by decide) ?_
  refine g_iload_n hk dX12_appends_13 rfl ?_
  refine g_bipush (v := 97) hk dX12_appends_14 (by decide) ?_
  refine g_isub hk dX12_appends_16 ?_
  refine g_norm (v := 19) (by decide) ?_
  refine g_iconst (v := 1) hk dX12_appends_17 (by decide) ?_
  refine g_iadd hk dX12_appends_18 ?_
  refine g_norm (v := 20) (by decide) ?_
  refine g_i2l (v := 20) hk dX12_appends_19 (by decide) ?_
  refine g_ladd hk dX12_appends_20 ?_
  refine g_norml (v := 3379448) (by decide) ?_
  exact g_lret hk hR ⟨rfl, rfl⟩ dX12_appends_21
def wo_m88_X12_appends : List Cond := []
def wz_m88_X12_appends : List Cond := .code yX12_appends cX12_appends 3 (some .long) :: (wo_m88_X12_appends ++ ([] : List Cond))
theorem zg_m88_X12_appends : ∀ w ∈ wz_m88_X12_appends, goodWord w = true := zg_cons rfl (zg_app (by decide +kernel) zg_nil)
theorem zi_m88_X12_appends : ∀ w ∈ wz_m88_X12_appends, w ∈ lw_tbl := zi_cons zw_1370 (zi_app zi_nil zi_nil)
set_option maxHeartbeats 4000000 in
set_option maxRecDepth 100000 in
theorem m88_X12_appends (l : Launch) (D : va_G) (zt : Nat × Nat × Nat) (g : Nat → ClassId) (r : Nat → Nat) : GM l D zt (tyM g) yX12_appends wz_m88_X12_appends ({ frames := 0, cells := 0, slots := 0, locals := 0 } : Room) [.long 3379448, .int 0] (wM r g (upd iM0 14 (-1)) (up3 (up3 (up3 (up3 aM0 13 0 2) 16 0 8) 13 1 2) 16 1 8) (up3L (up3L (up3L (up3L (up3L (up3L (up3L (up3L (up3L lM0 6 0 275647447) 6 1 9451996) 6 2 40477) 6 3 6491892) 6 4 70517) 6 5 847604) 6 6 5146) 6 7 286880) 6 8 259565)) (fun v _ w' => v = some (.long 3379448) ∧ w' = wM r g (upd iM0 14 (-1)) (up3 (up3 (up3 (up3 aM0 13 0 2) 16 0 8) 13 1 2) 16 1 8) (up3L (up3L (up3L (up3L (up3L (up3L (up3L (up3L (up3L lM0 6 0 275647447) 6 1 9451996) 6 2 40477) 6 3 6491892) 6 4 70517) 6 5 847604) 6 6 5146) 6 7 286880) 6 8 259565)) 0 0 := by
  refine GM.of (cc := cX12_appends) (maxL := 3) (ret := (some .long)) (own := RX12) (lv := [(0, .long 3379448), (2, .int 0)]) (by decide) rfl rfl (Nat.le_of_ble_eq_true rfl) rfl (fun κ sz hk hR hN => ?_)
  refine g_iload_n hk dX12_appends_0 rfl ?_
  refine g_if_ne (tgt := 8) (a := 0) hk dX12_appends_1 (by decide) rfl (fun z9 => absurd z9 (show ¬ ((0 : Int) ≠ (0 : Int)) from by decide)) (fun _ => ?_)
  refine g_lload_n hk dX12_appends_4 rfl ?_
  refine g_goto (tgt := 21) hk dX12_appends_5 (by decide) ?_
  exact g_lret hk hR ⟨rfl, rfl⟩ dX12_appends_21
def wo_m82_X12_letters : List Cond := [Cond.methodLink RX12 135 yX12_appends, Cond.static yX12_appends, Cond.initialized RX12]
def wz_m82_X12_letters : List Cond := .code yX12_letters cX12_letters 7 (some .long) :: (wo_m82_X12_letters ++ (wz_m83_X12_appends ++ (wz_m84_X12_appends ++ (wz_m85_X12_appends ++ (wz_m86_X12_appends ++ (wz_m87_X12_appends ++ (wz_m88_X12_appends ++ ([] : List Cond))))))))
theorem zg_m82_X12_letters : ∀ w ∈ wz_m82_X12_letters, goodWord w = true := zg_cons rfl (zg_app (by decide +kernel) (zg_app zg_m83_X12_appends (zg_app zg_m84_X12_appends (zg_app zg_m85_X12_appends (zg_app zg_m86_X12_appends (zg_app zg_m87_X12_appends (zg_app zg_m88_X12_appends zg_nil)))))))
theorem zi_m82_X12_letters : ∀ w ∈ wz_m82_X12_letters, w ∈ lw_tbl := zi_cons zw_1367 (zi_app (zi_cons zw_1368 (zi_cons zw_1369 (zi_cons zw_115 zi_nil))) (zi_app zi_m83_X12_appends (zi_app zi_m84_X12_appends (zi_app zi_m85_X12_appends (zi_app zi_m86_X12_appends (zi_app zi_m87_X12_appends (zi_app zi_m88_X12_appends zi_nil)))))))
set_option maxHeartbeats 4000000 in
set_option maxRecDepth 100000 in
theorem m82_X12_letters (l : Launch) (D : va_G) (zt : Nat × Nat × Nat) (g : Nat → ClassId) (r : Nat → Nat) : GM l D zt (tyM g) yX12_letters wz_m82_X12_letters ({ frames := 1, cells := 0, slots := 0, locals := 22 } : Room) [.int 102, .int 105, .int 114, .int 115, .int 116, .int 0, .int 0] (wM r g (upd iM0 14 (-1)) (up3 (up3 (up3 (up3 aM0 13 0 2) 16 0 8) 13 1 2) 16 1 8) (up3L (up3L (up3L (up3L (up3L (up3L (up3L (up3L (up3L lM0 6 0 275647447) 6 1 9451996) 6 2 40477) 6 3 6491892) 6 4 70517) 6 5 847604) 6 6 5146) 6 7 286880) 6 8 259565)) (fun v _ w' => v = some (.long 3379448) ∧ w' = wM r g (upd iM0 14 (-1)) (up3 (up3 (up3 (up3 aM0 13 0 2) 16 0 8) 13 1 2) 16 1 8) (up3L (up3L (up3L (up3L (up3L (up3L (up3L (up3L (up3L lM0 6 0 275647447) 6 1 9451996) 6 2 40477) 6 3 6491892) 6 4 70517) 6 5 847604) 6 6 5146) 6 7 286880) 6 8 259565)) 0 0 := by
  refine GM.of (cc := cX12_letters) (maxL := 7) (ret := (some .long)) (own := RX12) (lv := [(0, .int 102), (1, .int 105), (2, .int 114), (3, .int 115), (4, .int 116), (5, .int 0), (6, .int 0)]) (by decide) rfl rfl (Nat.le_of_ble_eq_true rfl) rfl (fun κ sz hk hR hN => ?_)
  refine g_lconst (v := 0) hk dX12_letters_0 (by decide) ?_
  refine g_iload_n hk dX12_letters_1 rfl ?_
  refine g_callS (n := 2) hk (m83_X12_appends l D zt g r) (SP.same _) (fun _ h => h) (gi_S (List.mem_cons_of_mem _ (List.mem_append_left _ (List.mem_of_getElem? (i := 0) rfl))) (List.mem_cons_of_mem _ (List.mem_append_left _ (List.mem_of_getElem? (i := 1) rfl))) (List.mem_cons_of_mem _ (List.mem_append_left _ (List.mem_of_getElem? (i := 2) rfl))) (gi_sub (fun w h => (List.mem_cons_of_mem _ (List.mem_append_right _ (List.mem_append_left _ h)))) zg_m83_X12_appends)) rfl rfl rfl (by decide +kernel) ⟨Nat.le_of_ble_eq_true rfl, Nat.le_of_ble_eq_true rfl⟩ rfl rfl (Nat.le_of_ble_eq_true rfl) ⟨Nat.le_of_ble_eq_true rfl, Nat.le_of_ble_eq_true rfl⟩ dX12_letters_2 (fun v ty' w' hp hk' => ?_)
  obtain ⟨rfl, rfl⟩ := hp
  show GW κ 7 0 0 (wM r g (upd iM0 14 (-1)) (up3 (up3 (up3 (up3 aM0 13 0 2) 16 0 8) 13 1 2) 16 1 8) (up3L (up3L (up3L (up3L (up3L (up3L (up3L (up3L (up3L lM0 6 0 275647447) 6 1 9451996) 6 2 40477) 6 3 6491892) 6 4 70517) 6 5 847604) 6 6 5146) 6 7 286880) 6 8 259565)) 5 [(0, .int 102), (1, .int 105), (2, .int 114), (3, .int 115), (4, .int 116), (5, .int 0), (6, .int 0)] [.long 6]
  refine g_iload_n hk dX12_letters_5 rfl ?_
  refine g_callS (n := 2) hk (m84_X12_appends l D zt g r) (SP.same _) (fun _ h => h) (gi_S (List.mem_cons_of_mem _ (List.mem_append_left _ (List.mem_of_getElem? (i := 0) rfl))) (List.mem_cons_of_mem _ (List.mem_append_left _ (List.mem_of_getElem? (i := 1) rfl))) (List.mem_cons_of_mem _ (List.mem_append_left _ (List.mem_of_getElem? (i := 2) rfl))) (gi_sub (fun w h => (List.mem_cons_of_mem _ (List.mem_append_right _ (List.mem_append_right _ (List.mem_append_left _ h))))) zg_m84_X12_appends)) rfl rfl rfl (by decide +kernel) ⟨Nat.le_of_ble_eq_true rfl, Nat.le_of_ble_eq_true rfl⟩ rfl rfl (Nat.le_of_ble_eq_true rfl) ⟨Nat.le_of_ble_eq_true rfl, Nat.le_of_ble_eq_true rfl⟩ dX12_letters_6 (fun v ty' w' hp hk' => ?_)
  obtain ⟨rfl, rfl⟩ := hp
  show GW κ 7 0 0 (wM r g (upd iM0 14 (-1)) (up3 (up3 (up3 (up3 aM0 13 0 2) 16 0 8) 13 1 2) 16 1 8) (up3L (up3L (up3L (up3L (up3L (up3L (up3L (up3L (up3L lM0 6 0 275647447) 6 1 9451996) 6 2 40477) 6 3 6491892) 6 4 70517) 6 5 847604) 6 6 5146) 6 7 286880) 6 8 259565)) 9 [(0, .int 102), (1, .int 105), (2, .int 114), (3, .int 115), (4, .int 116), (5, .int 0), (6, .int 0)] [.long 171]
  refine g_iload_n hk dX12_letters_9 rfl ?_
  refine g_callS (n := 2) hk (m85_X12_appends l D zt g r) (SP.same _) (fun _ h => h) (gi_S (List.mem_cons_of_mem _ (List.mem_append_left _ (List.mem_of_getElem? (i := 0) rfl))) (List.mem_cons_of_mem _ (List.mem_append_left _ (List.mem_of_getElem? (i := 1) rfl))) (List.mem_cons_of_mem _ (List.mem_append_left _ (List.mem_of_getElem? (i := 2) rfl))) (gi_sub (fun w h => (List.mem_cons_of_mem _ (List.mem_append_right _ (List.mem_append_right _ (List.mem_append_right _ (List.mem_append_left _ h)))))) zg_m85_X12_appends)) rfl rfl rfl (by decide +kernel) ⟨Nat.le_of_ble_eq_true rfl, Nat.le_of_ble_eq_true rfl⟩ rfl rfl (Nat.le_of_ble_eq_true rfl) ⟨Nat.le_of_ble_eq_true rfl, Nat.le_of_ble_eq_true rfl⟩ dX12_letters_10 (fun v ty' w' hp hk' => ?_)
  obtain ⟨rfl, rfl⟩ := hp
  show GW κ 7 0 0 (wM r g (upd iM0 14 (-1)) (up3 (up3 (up3 (up3 aM0 13 0 2) 16 0 8) 13 1 2) 16 1 8) (up3L (up3L (up3L (up3L (up3L (up3L (up3L (up3L (up3L lM0 6 0 275647447) 6 1 9451996) 6 2 40477) 6 3 6491892) 6 4 70517) 6 5 847604) 6 6 5146) 6 7 286880) 6 8 259565)) 13 [(0, .int 102), (1, .int 105), (2, .int 114), (3, .int 115), (4, .int 116), (5, .int 0), (6, .int 0)] [.long 4635]
  refine g_iload_n hk dX12_letters_13 rfl ?_
  refine g_callS (n := 2) hk (m86_X12_appends l D zt g r) (SP.same _) (fun _ h => h) (gi_S (List.mem_cons_of_mem _ (List.mem_append_left _ (List.mem_of_getElem? (i := 0) rfl))) (List.mem_cons_of_mem _ (List.mem_append_left _ (List.mem_of_getElem? (i := 1) rfl))) (List.mem_cons_of_mem _ (List.mem_append_left _ (List.mem_of_getElem? (i := 2) rfl))) (gi_sub (fun w h => (List.mem_cons_of_mem _ (List.mem_append_right _ (List.mem_append_right _ (List.mem_append_right _ (List.mem_append_right _ (List.mem_append_left _ h))))))) zg_m86_X12_appends)) rfl rfl rfl (by decide +kernel) ⟨Nat.le_of_ble_eq_true rfl, Nat.le_of_ble_eq_true rfl⟩ rfl rfl (Nat.le_of_ble_eq_true rfl) ⟨Nat.le_of_ble_eq_true rfl, Nat.le_of_ble_eq_true rfl⟩ dX12_letters_14 (fun v ty' w' hp hk' => ?_)
  obtain ⟨rfl, rfl⟩ := hp
  show GW κ 7 0 0 (wM r g (upd iM0 14 (-1)) (up3 (up3 (up3 (up3 aM0 13 0 2) 16 0 8) 13 1 2) 16 1 8) (up3L (up3L (up3L (up3L (up3L (up3L (up3L (up3L (up3L lM0 6 0 275647447) 6 1 9451996) 6 2 40477) 6 3 6491892) 6 4 70517) 6 5 847604) 6 6 5146) 6 7 286880) 6 8 259565)) 17 [(0, .int 102), (1, .int 105), (2, .int 114), (3, .int 115), (4, .int 116), (5, .int 0), (6, .int 0)] [.long 125164]
  refine g_iload hk dX12_letters_17 rfl ?_
  refine g_callS (n := 2) hk (m87_X12_appends l D zt g r) (SP.same _) (fun _ h => h) (gi_S (List.mem_cons_of_mem _ (List.mem_append_left _ (List.mem_of_getElem? (i := 0) rfl))) (List.mem_cons_of_mem _ (List.mem_append_left _ (List.mem_of_getElem? (i := 1) rfl))) (List.mem_cons_of_mem _ (List.mem_append_left _ (List.mem_of_getElem? (i := 2) rfl))) (gi_sub (fun w h => (List.mem_cons_of_mem _ (List.mem_append_right _ (List.mem_append_right _ (List.mem_append_right _ (List.mem_append_right _ (List.mem_append_right _ (List.mem_append_left _ h)))))))) zg_m87_X12_appends)) rfl rfl rfl (by decide +kernel) ⟨Nat.le_of_ble_eq_true rfl, Nat.le_of_ble_eq_true rfl⟩ rfl rfl (Nat.le_of_ble_eq_true rfl) ⟨Nat.le_of_ble_eq_true rfl, Nat.le_of_ble_eq_true rfl⟩ dX12_letters_19 (fun v ty' w' hp hk' => ?_)
  obtain ⟨rfl, rfl⟩ := hp
  show GW κ 7 0 0 (wM r g (upd iM0 14 (-1)) (up3 (up3 (up3 (up3 aM0 13 0 2) 16 0 8) 13 1 2) 16 1 8) (up3L (up3L (up3L (up3L (up3L (up3L (up3L (up3L (up3L lM0 6 0 275647447) 6 1 9451996) 6 2 40477) 6 3 6491892) 6 4 70517) 6 5 847604) 6 6 5146) 6 7 286880) 6 8 259565)) 22 [(0, .int 102), (1, .int 105), (2, .int 114), (3, .int 115), (4, .int 116), (5, .int 0), (6, .int 0)] [.long 3379448]
  refine g_iload hk dX12_letters_22 rfl ?_
  refine g_callS (n := 2) hk (m88_X12_appends l D zt g r) (SP.same _) (fun _ h => h) (gi_S (List.mem_cons_of_mem _ (List.mem_append_left _ (List.mem_of_getElem? (i := 0) rfl))) (List.mem_cons_of_mem _ (List.mem_append_left _ (List.mem_of_getElem? (i := 1) rfl))) (List.mem_cons_of_mem _ (List.mem_append_left _ (List.mem_of_getElem? (i := 2) rfl))) (gi_sub (fun w h => (List.mem_cons_of_mem _ (List.mem_append_right _ (List.mem_append_right _ (List.mem_append_right _ (List.mem_append_right _ (List.mem_append_right _ (List.mem_append_right _ (List.mem_append_left _ h))))))))) zg_m88_X12_appends)) rfl rfl rfl (by decide +kernel) ⟨Nat.le_of_ble_eq_true rfl, Nat.le_of_ble_eq_true rfl⟩ rfl rfl (Nat.le_of_ble_eq_true rfl) ⟨Nat.le_of_ble_eq_true rfl, Nat.le_of_ble_eq_true rfl⟩ dX12_letters_24 (fun v ty' w' hp hk' => ?_)
  obtain ⟨rfl, rfl⟩ := hp
  show GW κ 7 0 0 (wM r g (upd iM0 14 (-1)) (up3 (up3 (up3 (up3 aM0 13 0 2) 16 0 8) 13 1 2) 16 1 8) (up3L (up3L (up3L (up3L (up3L (up3L (up3L (up3L (up3L lM0 6 0 275647447) 6 1 9451996) 6 2 40477) 6 3 6491892) 6 4 70517) 6 5 847604) 6 6 5146) 6 7 286880) 6 8 259565)) 27 [(0, .int 102), (1, .int 105), (2, .int 114), (3, .int 115), (4, .int 116), (5, .int 0), (6, .int 0)] [.long 3379448]
  refine g_iload hk dX12_letters_27 rfl ?_
  refine g_callS (n := 2) hk (m88_X12_appends l D zt g r) (SP.same _) (fun _ h => h) (gi_S (List.mem_cons_of_mem _ (List.mem_append_left _ (List.mem_of_getElem? (i := 0) rfl))) (List.mem_cons_of_mem _ (List.mem_append_left _ (List.mem_of_getElem? (i := 1) rfl))) (List.mem_cons_of_mem _ (List.mem_append_left _ (List.mem_of_getElem? (i := 2) rfl))) (gi_sub (fun w h => (List.mem_cons_of_mem _ (List.mem_append_right _ (List.mem_append_right _ (List.mem_append_right _ (List.mem_append_right _ (List.mem_append_right _ (List.mem_append_right _ (List.mem_append_left _ h))))))))) zg_m88_X12_appends)) rfl rfl rfl (by decide +kernel) ⟨Nat.le_of_ble_eq_true rfl, Nat.le_of_ble_eq_true rfl⟩ rfl rfl (Nat.le_of_ble_eq_true rfl) ⟨Nat.le_of_ble_eq_true rfl, Nat.le_of_ble_eq_true rfl⟩ dX12_letters_29 (fun v ty' w' hp hk' => ?_)
  obtain ⟨rfl, rfl⟩ := hp
  show GW κ 7 0 0 (wM r g (upd iM0 14 (-1)) (up3 (up3 (up3 (up3 aM0 13 0 2) 16 0 8) 13 1 2) 16 1 8) (up3L (up3L (up3L (up3L (up3L (up3L (up3L (up3L (up3L lM0 6 0 275647447) 6 1 9451996) 6 2 40477) 6 3 6491892) 6 4 70517) 6 5 847604) 6 6 5146) 6 7 286880) 6 8 259565)) 32 [(0, .int 102), (1, .int 105), (2, .int 114), (3, .int 115), (4, .int 116), (5, .int 0), (6, .int 0)] [.long 3379448]
  exact g_lret hk hR ⟨rfl, rfl⟩ dX12_letters_32
def wo_m90_X12_appends : List Cond := [Cond.constantLong RX12 133 (27)]
def wz_m90_X12_appends : List Cond := .code yX12_appends cX12_appends 3 (some .long) :: (wo_m90_X12_appends ++ ([] : List Cond))
theorem zg_m90_X12_appends : ∀ w ∈ wz_m90_X12_appends, goodWord w = true := zg_cons rfl (zg_app (by decide +kernel) zg_nil)
theorem zi_m90_X12_appends : ∀ w ∈ wz_m90_X12_appends, w ∈ lw_tbl := zi_cons zw_1370 (zi_app (zi_cons zw_1371 zi_nil) zi_nil)
set_option maxHeartbeats 4000000 in
set_option maxRecDepth 100000 in
theorem m90_X12_appends (l : Launch) (D : va_G) (zt : Nat × Nat × Nat) (g : Nat → ClassId) (r : Nat → Nat) : GM l D zt (tyM g) yX12_appends wz_m90_X12_appends ({ frames := 0, cells := 0, slots := 0, locals := 0 } : Room) [.long 0, .int 114] (wM r g (upd iM0 14 (-1)) (up3 (up3 (up3 (up3 aM0 13 0 2) 16 0 8) 13 1 2) 16 1 8) (up3L (up3L (up3L (up3L (up3L (up3L (up3L (up3L (up3L (up3L lM0 6 0 275647447) 6 1 9451996) 6 2 40477) 6 3 6491892) 6 4 70517) 6 5 847604) 6 6 5146) 6 7 286880) 6 8 259565) 6 9 3379448)) (fun v _ w' => v = some (.long 18) ∧ w' = wM r g (upd iM0 14 (-1)) (up3 (up3 (up3 (up3 aM0 13 0 2) 16 0 8) 13 1 2) 16 1 8) (up3L (up3L (up3L (up3L (up3L (up3L (up3L (up3L (up3L (up3L lM0 6 0 275647447) 6 1 9451996) 6 2 40477) 6 3 6491892) 6 4 70517) 6 5 847604) 6 6 5146) 6 7 286880) 6 8 259565) 6 9 3379448)) 0 0 := by
  refine GM.of (cc := cX12_appends) (maxL := 3) (ret := (some .long)) (own := RX12) (lv := [(0, .long 0), (2, .int 114)]) (by decide) rfl rfl (Nat.le_of_ble_eq_true rfl) rfl (fun κ sz hk hR hN => ?_)
  refine g_iload_n hk dX12_appends_0 rfl ?_
  refine g_if_ne (tgt := 8) (a := 114) hk dX12_appends_1 (by decide) rfl (fun _ => ?_) (fun z9 => absurd (show (114 : Int) ≠ (0 : Int) from by decide) z9)
  refine g_ldc2 (v := 27) hk (List.mem_cons_of_mem _ (List.mem_append_left _ (List.mem_of_getElem? (i := 0) rfl))) dX12_appends_8 ?_
  refine g_lload_n hk dX12_appends_11 rfl ?_
  refine g_lmul hk dX12_appends_12 ?_
  refine g_norml (v := 0) (by decide) ?_
  refine g_iload_n hk dX12_appends_13 rfl ?_
  refine g_bipush (v := 97) hk dX12_appends_14 (by decide) ?_
  refine g_isub hk dX12_appends_16 ?_
  refine g_norm (v := 17) (by decide) ?_
  refine g_iconst (v := 1) hk dX12_appends_17 (by decide) ?_
  refine g_iadd hk dX12_appends_18 ?_
  refine g_norm (v := 18) (by decide) ?_
  refine g_i2l (v := 18) hk dX12_appends_19 (by decide) ?_
  refine g_ladd hk dX12_appends_20 ?_
  refine g_norml (v := 18) (by decide) ?_
  exact g_lret hk hR ⟨rfl, rfl⟩ dX12_appends_21
def wo_m91_X12_appends : List Cond := [Cond.constantLong RX12 133 (27)]
def wz_m91_X12_appends : List Cond := .code yX12_appends cX12_appends 3 (some .long) :: (wo_m91_X12_appends ++ ([] : List Cond))
theorem zg_m91_X12_appends : ∀ w ∈ wz_m91_X12_appends, goodWord w = true := zg_cons rfl (zg_app (by decide +kernel) zg_nil)
theorem zi_m91_X12_appends : ∀ w ∈ wz_m91_X12_appends, w ∈ lw_tbl := zi_cons zw_1370 (zi_app (zi_cons zw_1371 zi_nil) zi_nil)
set_option maxHeartbeats 4000000 in
set_option maxRecDepth 100000 in
theorem m91_X12_appends (l : Launch) (D : va_G) (zt : Nat × Nat × Nat) (g : Nat → ClassId) (r : Nat → Nat) : GM l D zt (tyM g) yX12_appends wz_m91_X12_appends ({ frames := 0, cells := 0, slots := 0, locals := 0 } : Room) [.long 18, .int 97] (wM r g (upd iM0 14 (-1)) (up3 (up3 (up3 (up3 aM0 13 0 2) 16 0 8) 13 1 2) 16 1 8) (up3L (up3L (up3L (up3L (up3L (up3L (up3L (up3L (up3L (up3L lM0 6 0 275647447) 6 1 9451996) 6 2 40477) 6 3 6491892) 6 4 70517) 6 5 847604) 6 6 5146) 6 7 286880) 6 8 259565) 6 9 3379448)) (fun v _ w' => v = some (.long 487) ∧ w' = wM r g (upd iM0 14 (-1)) (up3 (up3 (up3 (up3 aM0 13 0 2) 16 0 8) 13 1 2) 16 1 8) (up3L (up3L (up3L (up3L (up3L (up3L (up3L (up3L (up3L (up3L lM0 6 0 275647447) 6 1 9451996) 6 2 40477) 6 3 6491892) 6 4 70517) 6 5 847604) 6 6 5146) 6 7 286880) 6 8 259565) 6 9 3379448)) 0 0 := by
  refine GM.of (cc := cX12_appends) (maxL := 3) (ret := (some .long)) (own := RX12) (lv := [(0, .long 18), (2, .int 97)]) (by decide) rfl rfl (Nat.le_of_ble_eq_true rfl) rfl (fun κ sz hk hR hN => ?_)
  refine g_iload_n hk dX12_appends_0 rfl ?_
  refine g_if_ne (tgt := 8) (a := 97) hk dX12_appends_1 (by decide) rfl (fun _ => ?_) (fun z9 => absurd (show (97 : Int) ≠ (0 : Int) from by decide) z9)
  refine g_ldc2 (v := 27) hk (List.mem_cons_of_mem _ (List.mem_append_left _ (List.mem_of_getElem? (i := 0) rfl))) dX12_appends_8 ?_
  refine g_lload_n hk dX12_appends_11 rfl ?_
  refine g_lmul hk dX12_appends_12 ?_
  refine g_norml (v := 486) (by decide) ?_
  refine g_iload_n hk dX12_appends_13 rfl ?_
  refine g_bipush (v := 97) hk dX12_appends_14 (by decide) ?_
  refine g_isub hk dX12_appends_16 ?_
  refine g_norm (v := 0) (by decide) ?_
  refine g_iconst (v := 1) hk dX12_appends_17 (by decide) ?_
  refine g_iadd hk dX12_appends_18 ?_
  refine g_norm (v := 1) (by decide) ?_
  refine g_i2l (v := 1) hk dX12_appends_19 (by decide) ?_
  refine g_ladd hk dX12_appends_20 ?_
  refine g_norml (v := 487) (by decide) ?_
  exact g_lret hk hR ⟨rfl, rfl⟩ dX12_appends_21
def wo_m92_X12_appends : List Cond := [Cond.constantLong RX12 133 (27)]
def wz_m92_X12_appends : List Cond := .code yX12_appends cX12_appends 3 (some .long) :: (wo_m92_X12_appends ++ ([] : List Cond))
theorem zg_m92_X12_appends : ∀ w ∈ wz_m92_X12_appends, goodWord w = true := zg_cons rfl (zg_app (by decide +kernel) zg_nil)
theorem zi_m92_X12_appends : ∀ w ∈ wz_m92_X12_appends, w ∈ lw_tbl := zi_cons zw_1370 (zi_app (zi_cons zw_1371 zi_nil) zi_nil)
set_option maxHeartbeats 4000000 in
set_option maxRecDepth 100000 in
theorem m92_X12_appends (l : Launch) (D : va_G) (zt : Nat × Nat × Nat) (g : Nat → ClassId) (r : Nat → Nat) : GM l D zt (tyM g) yX12_appends wz_m92_X12_appends ({ frames := 0, cells := 0, slots := 0, locals := 0 } : Room) [.long 487, .int 110] (wM r g (upd iM0 14 (-1)) (up3 (up3 (up3 (up3 aM0 13 0 2) 16 0 8) 13 1 2) 16 1 8) (up3L (up3L (up3L (up3L (up3L (up3L (up3L (up3L (up3L (up3L lM0 6 0 275647447) 6 1 9451996) 6 2 40477) 6 3 6491892) 6 4 70517) 6 5 847604) 6 6 5146) 6 7 286880) 6 8 259565) 6 9 3379448)) (fun v _ w' => v = some (.long 13163) ∧ w' = wM r g (upd iM0 14 (-1)) (up3 (up3 (up3 (up3 aM0 13 0 2) 16 0 8) 13 1 2) 16 1 8) (up3L (up3L (up3L (up3L (up3L (up3L (up3L (up3L (up3L (up3L lM0 6 0 275647447) 6 1 9451996) 6 2 40477) 6 3 6491892) 6 4 70517) 6 5 847604) 6 6 5146) 6 7 286880) 6 8 259565) 6 9 3379448)) 0 0 := by
  refine GM.of (cc := cX12_appends) (maxL := 3) (ret := (some .long)) (own := RX12) (lv := [(0, .long 487), (2, .int 110)]) (by decide) rfl rfl (Nat.le_of_ble_eq_true rfl) rfl (fun κ sz hk hR hN => ?_)
  refine g_iload_n hk dX12_appends_0 rfl ?_
  refine g_if_ne (tgt := 8) (a := 110) hk dX12_appends_1 (by decide) rfl (fun _ => ?_) (fun z9 => absurd (show (110 : Int) ≠ (0 : Int) from by decide) z9)
  refine g_ldc2 (v := 27) hk (List.mem_cons_of_mem _ (List.mem_append_left _ (List.mem_of_getElem? (i := 0) rfl))) dX12_appends_8 ?_
  refine g_lload_n hk dX12_appends_11 rfl ?_
  refine g_lmul hk dX12_appends_12 ?_
  refine g_norml (v := 13149) (by decide) ?_
  refine g_iload_n hk dX12_appends_13 rfl ?_
  refine g_bipush (v := 97) hk dX12_appends_14 (by decide) ?_
  refine g_isub hk dX12_appends_16 ?_
  refine g_norm (v := 13) (by decide) ?_
  refine g_iconst (v := 1) hk dX12_appends_17 (by decide) ?_
  refine g_iadd hk dX12_appends_18 ?_
  refine g_norm (v := 14) (by decide) ?_
  refine g_i2l (v := 14) hk dX12_appends_19 (by decide) ?_
  refine g_ladd hk dX12_appends_20 ?_
  refine g_norml (v := 13163) (by decide) ?_
  exact g_lret hk hR ⟨rfl, rfl⟩ dX12_appends_21
def wo_m93_X12_appends : List Cond := [Cond.constantLong RX12 133 (27)]
def wz_m93_X12_appends : List Cond := .code yX12_appends cX12_appends 3 (some .long) :: (wo_m93_X12_appends ++ ([] : List Cond))
theorem zg_m93_X12_appends : ∀ w ∈ wz_m93_X12_appends, goodWord w = true := zg_cons rfl (zg_app (by decide +kernel) zg_nil)
theorem zi_m93_X12_appends : ∀ w ∈ wz_m93_X12_appends, w ∈ lw_tbl := zi_cons zw_1370 (zi_app (zi_cons zw_1371 zi_nil) zi_nil)
set_option maxHeartbeats 4000000 in
set_option maxRecDepth 100000 in
theorem m93_X12_appends (l : Launch) (D : va_G) (zt : Nat × Nat × Nat) (g : Nat → ClassId) (r : Nat → Nat) : GM l D zt (tyM g) yX12_appends wz_m93_X12_appends ({ frames := 0, cells := 0, slots := 0, locals := 0 } : Room) [.long 13163, .int 103] (wM r g (upd iM0 14 (-1)) (up3 (up3 (up3 (up3 aM0 13 0 2) 16 0 8) 13 1 2) 16 1 8) (up3L (up3L (up3L (up3L (up3L (up3L (up3L (up3L (up3L (up3L lM0 6 0 275647447) 6 1 9451996) 6 2 40477) 6 3 6491892) 6 4 70517) 6 5 847604) 6 6 5146) 6 7 286880) 6 8 259565) 6 9 3379448)) (fun v _ w' => v = some (.long 355408) ∧ w' = wM r g (upd iM0 14 (-1)) (up3 (up3 (up3 (up3 aM0 13 0 2) 16 0 8) 13 1 2) 16 1 8) (up3L (up3L (up3L (up3L (up3L (up3L (up3L (up3L (up3L (up3L lM0 6 0 275647447) 6 1 9451996) 6 2 40477) 6 3 6491892) 6 4 70517) 6 5 847604) 6 6 5146) 6 7 286880) 6 8 259565) 6 9 3379448)) 0 0 := by
  refine GM.of (cc := cX12_appends) (maxL := 3) (ret := (some .long)) (own := RX12) (lv := [(0, .long 13163), (2, .int 103)]) (by decide) rfl rfl (Nat.le_of_ble_eq_true rfl) rfl (fun κ sz hk hR hN => ?_)
  refine g_iload_n hk dX12_appends_0 rfl ?_
  refine g_if_ne (tgt := 8) (a := 103) hk dX12_appends_1 (by decide) rfl (fun _ => ?_) (fun z9 => absurd (show (103 : Int) ≠ (0 : Int) from by decide) z9)
  refine g_ldc2 (v := 27) hk (List.mem_cons_of_mem _ (List.mem_append_left _ (List.mem_of_getElem? (i := 0) rfl))) dX12_appends_8 ?_
  refine g_lload_n hk dX12_appends_11 rfl ?_
  refine g_lmul hk dX12_appends_12 ?_
  refine g_norml (v := 355401) (by decide) ?_
  refine g_iload_n hk dX12_appends_13 rfl ?_
  refine g_bipush (v := 97) hk dX12_appends_14 (by decide) ?_
  refine g_isub hk dX12_appends_16 ?_
  refine g_norm (v := 6) (by decide) ?_
  refine g_iconst (v := 1) hk dX12_appends_17 (by decide) ?_
  refine g_iadd hk dX12_appends_18 ?_
  refine g_norm (v := 7) (by decide) ?_
  refine g_i2l (v := 7) hk dX12_appends_19 (by decide) ?_
  refine g_ladd hk dX12_appends_20 ?_
  refine g_norml (v := 355408) (by decide) ?_
  exact g_lret hk hR ⟨rfl, rfl⟩ dX12_appends_21
def wo_m94_X12_appends : List Cond := [Cond.constantLong RX12 133 (27)]
def wz_m94_X12_appends : List Cond := .code yX12_appends cX12_appends 3 (some .long) :: (wo_m94_X12_appends ++ ([] : List Cond))
theorem zg_m94_X12_appends : ∀ w ∈ wz_m94_X12_appends, goodWord w = true := zg_cons rfl (zg_app (by decide +kernel) zg_nil)
theorem zi_m94_X12_appends : ∀ w ∈ wz_m94_X12_appends, w ∈ lw_tbl := zi_cons zw_1370 (zi_app (zi_cons zw_1371 zi_nil) zi_nil)
set_option maxHeartbeats 4000000 in
set_option maxRecDepth 100000 in
theorem m94_X12_appends (l : Launch) (D : va_G) (zt : Nat × Nat × Nat) (g : Nat → ClassId) (r : Nat → Nat) : GM l D zt (tyM g) yX12_appends wz_m94_X12_appends ({ frames := 0, cells := 0, slots := 0, locals := 0 } : Room) [.long 355408, .int 101] (wM r g (upd iM0 14 (-1)) (up3 (up3 (up3 (up3 aM0 13 0 2) 16 0 8) 13 1 2) 16 1 8) (up3L (up3L (up3L (up3L (up3L (up3L (up3L (up3L (up3L (up3L lM0 6 0 275647447) 6 1 9451996) 6 2 40477) 6 3 6491892) 6 4 70517) 6 5 847604) 6 6 5146) 6 7 286880) 6 8 259565) 6 9 3379448)) (fun v _ w' => v = some (.long 9596021) ∧ w' = wM r g (upd iM0 14 (-1)) (up3 (up3 (up3 (up3 aM0 13 0 2) 16 0 8) 13 1 2) 16 1 8) (up3L (up3L (up3L (up3L (up3L (up3L (up3L (up3L (up3L (up3L lM0 6 0 275647447) 6 1 9451996) 6 2 40477) 6 3 6491892) 6 4 70517) 6 5 847604) 6 6 5146) 6 7 286880) 6 8 259565) 6 9 3379448)) 0 0 := by
  refine GM.of (cc := cX12_appends) (maxL := 3) (ret := (some .long)) (own := RX12) (lv := [(0, .long 355408), (2, .int 101)]) (by decide) rfl rfl (Nat.le_of_ble_eq_true rfl) rfl (fun κ sz hk hR hN => ?_)
  refine g_iload_n hk dX12_appends_0 rfl ?_
  refine g_if_ne (tgt := 8) (a := 101) hk dX12_appends_1 (by decide) rfl (fun _ => ?_) (fun z9 => absurd (show (101 : Int) ≠ (0 : Int) from by decide) z9)
  refine g_ldc2 (v := 27) hk (List.mem_cons_of_mem _ (List.mem_append_left _ (List.mem_of_getElem? (i := 0) rfl))) dX12_appends_8 ?_
  refine g_lload_n hk dX12_appends_11 rfl ?_
  refine g_lmul hk dX12_appends_12 ?_
  refine g_norml (v := 9596016) (by decide) ?_
  refine g_iload_n hk dX12_appends_13 rfl ?_
  refine g_bipush (v := 97) hk dX12_appends_14 (by decide) ?_
  refine g_isub hk dX12_appends_16 ?_
  refine g_norm (v := 4) (by decide) ?_
  refine g_iconst (v := 1) hk dX12_appends_17 (by decide) ?_
  refine g_iadd hk dX12_appends_18 ?_
  refine g_norm (v := 5) (by decide) ?_
  refine g_i2l (v := 5) hk dX12_appends_19 (by decide) ?_
  refine g_ladd hk dX12_appends_20 ?_
  refine g_norml (v := 9596021) (by decide) ?_
  exact g_lret hk hR ⟨rfl, rfl⟩ dX12_appends_21
def wo_m95_X12_appends : List Cond := []
def wz_m95_X12_appends : List Cond := .code yX12_appends cX12_appends 3 (some .long) :: (wo_m95_X12_appends ++ ([] : List Cond))
theorem zg_m95_X12_appends : ∀ w ∈ wz_m95_X12_appends, goodWord w = true := zg_cons rfl (zg_app (by decide +kernel) zg_nil)
theorem zi_m95_X12_appends : ∀ w ∈ wz_m95_X12_appends, w ∈ lw_tbl := zi_cons zw_1370 (zi_app zi_nil zi_nil)
set_option maxHeartbeats 4000000 in
set_option maxRecDepth 100000 in
theorem m95_X12_appends (l : Launch) (D : va_G) (zt : Nat × Nat × Nat) (g : Nat → ClassId) (r : Nat → Nat) : GM l D zt (tyM g) yX12_appends wz_m95_X12_appends ({ frames := 0, cells := 0, slots := 0, locals := 0 } : Room) [.long 9596021, .int 0] (wM r g (upd iM0 14 (-1)) (up3 (up3 (up3 (up3 aM0 13 0 2) 16 0 8) 13 1 2) 16 1 8) (up3L (up3L (up3L (up3L (up3L (up3L (up3L (up3L (up3L (up3L lM0 6 0 275647447) 6 1 9451996) 6 2 40477) 6 3 6491892) 6 4 70517) 6 5 847604) 6 6 5146) 6 7 286880) 6 8 259565) 6 9 3379448)) (fun v _ w' => v = some (.long 9596021) ∧ w' = wM r g (upd iM0 14 (-1)) (up3 (up3 (up3 (up3 aM0 13 0 2) 16 0 8) 13 1 2) 16 1 8) (up3L (up3L (up3L (up3L (up3L (up3L (up3L (up3L (up3L (up3L lM0 6 0 275647447) 6 1 9451996) 6 2 40477) 6 3 6491892) 6 4 70517) 6 5 847604) 6 6 5146) 6 7 286880) 6 8 259565) 6 9 3379448)) 0 0 := by
  refine GM.of (cc := cX12_appends) (maxL := 3) (ret := (some .long)) (own := RX12) (lv := [(0, .long 9596021), (2, .int 0)]) (by decide) rfl rfl (Nat.le_of_ble_eq_true rfl) rfl (fun κ sz hk hR hN => ?_)
  refine g_iload_n hk dX12_appends_0 rfl ?_
  refine g_if_ne (tgt := 8) (a := 0) hk dX12_appends_1 (by decide) rfl (fun z9 => absurd z9 (show ¬ ((0 : Int) ≠ (0 : Int)) from by decide)) (fun _ => ?_)
  refine g_lload_n hk dX12_appends_4 rfl ?_
  refine g_goto (tgt := 21) hk dX12_appends_5 (by decide) ?_
  exact g_lret hk hR ⟨rfl, rfl⟩ dX12_appends_21
def wo_m89_X12_letters : List Cond := [Cond.methodLink RX12 135 yX12_appends, Cond.static yX12_appends, Cond.initialized RX12]
def wz_m89_X12_letters : List Cond := .code yX12_letters cX12_letters 7 (some .long) :: (wo_m89_X12_letters ++ (wz_m90_X12_appends ++ (wz_m91_X12_appends ++ (wz_m92_X12_appends ++ (wz_m93_X12_appends ++ (wz_m94_X12_appends ++ (wz_m95_X12_appends ++ ([] : List Cond))))))))
theorem zg_m89_X12_letters : ∀ w ∈ wz_m89_X12_letters, goodWord w = true := zg_cons rfl (zg_app (by decide +kernel) (zg_app zg_m90_X12_appends (zg_app zg_m91_X12_appends (zg_app zg_m92_X12_appends (zg_app zg_m93_X12_appends (zg_app zg_m94_X12_appends (zg_app zg_m95_X12_appends zg_nil)))))))
theorem zi_m89_X12_letters : ∀ w ∈ wz_m89_X12_letters, w ∈ lw_tbl := zi_cons zw_1367 (zi_app (zi_cons zw_1368 (zi_cons zw_1369 (zi_cons zw_115 zi_nil))) (zi_app zi_m90_X12_appends (zi_app zi_m91_X12_appends (zi_app zi_m92_X12_appends (zi_app zi_m93_X12_appends (zi_app zi_m94_X12_appends (zi_app zi_m95_X12_appends zi_nil)))))))
set_option maxHeartbeats 4000000 in
set_option maxRecDepth 100000 in
theorem m89_X12_letters (l : Launch) (D : va_G) (zt : Nat × Nat × Nat) (g : Nat → ClassId) (r : Nat → Nat) : GM l D zt (tyM g) yX12_letters wz_m89_X12_letters ({ frames := 1, cells := 0, slots := 0, locals := 22 } : Room) [.int 114, .int 97, .int 110, .int 103, .int 101, .int 0, .int 0] (wM r g (upd iM0 14 (-1)) (up3 (up3 (up3 (up3 aM0 13 0 2) 16 0 8) 13 1 2) 16 1 8) (up3L (up3L (up3L (up3L (up3L (up3L (up3L (up3L (up3L (up3L lM0 6 0 275647447) 6 1 9451996) 6 2 40477) 6 3 6491892) 6 4 70517) 6 5 847604) 6 6 5146) 6 7 286880) 6 8 259565) 6 9 3379448)) (fun v _ w' => v = some (.long 9596021) ∧ w' = wM r g (upd iM0 14 (-1)) (up3 (up3 (up3 (up3 aM0 13 0 2) 16 0 8) 13 1 2) 16 1 8) (up3L (up3L (up3L (up3L (up3L (up3L (up3L (up3L (up3L (up3L lM0 6 0 275647447) 6 1 9451996) 6 2 40477) 6 3 6491892) 6 4 70517) 6 5 847604) 6 6 5146) 6 7 286880) 6 8 259565) 6 9 3379448)) 0 0 := by
  refine GM.of (cc := cX12_letters) (maxL := 7) (ret := (some .long)) (own := RX12) (lv := [(0, .int 114), (1, .int 97), (2, .int 110), (3, .int 103), (4, .int 101), (5, .int 0), (6, .int 0)]) (by decide) rfl rfl (Nat.le_of_ble_eq_true rfl) rfl (fun κ sz hk hR hN => ?_)
  refine g_lconst (v := 0) hk dX12_letters_0 (by decide) ?_
  refine g_iload_n hk dX12_letters_1 rfl ?_
  refine g_callS (n := 2) hk (m90_X12_appends l D zt g r) (SP.same _) (fun _ h => h) (gi_S (List.mem_cons_of_mem _ (List.mem_append_left _ (List.mem_of_getElem? (i := 0) rfl))) (List.mem_cons_of_mem _ (List.mem_append_left _ (List.mem_of_getElem? (i := 1) rfl))) (List.mem_cons_of_mem _ (List.mem_append_left _ (List.mem_of_getElem? (i := 2) rfl))) (gi_sub (fun w h => (List.mem_cons_of_mem _ (List.mem_append_right _ (List.mem_append_left _ h)))) zg_m90_X12_appends)) rfl rfl rfl (by decide +kernel) ⟨Nat.le_of_ble_eq_true rfl, Nat.le_of_ble_eq_true rfl⟩ rfl rfl (Nat.le_of_ble_eq_true rfl) ⟨Nat.le_of_ble_eq_true rfl, Nat.le_of_ble_eq_true rfl⟩ dX12_letters_2 (fun v ty' w' hp hk' => ?_)
  obtain ⟨rfl, rfl⟩ := hp
  show GW κ 7 0 0 (wM r g (upd iM0 14 (-1)) (up3 (up3 (up3 (up3 aM0 13 0 2) 16 0 8) 13 1 2) 16 1 8) (up3L (up3L (up3L (up3L (up3L (up3L (up3L (up3L (up3L (up3L lM0 6 0 275647447) 6 1 9451996) 6 2 40477) 6 3 6491892) 6 4 70517) 6 5 847604) 6 6 5146) 6 7 286880) 6 8 259565) 6 9 3379448)) 5 [(0, .int 114), (1, .int 97), (2, .int 110), (3, .int 103), (4, .int 101), (5, .int 0), (6, .int 0)] [.long 18]
  refine g_iload_n hk dX12_letters_5 rfl ?_
  refine g_callS (n := 2) hk (m91_X12_appends l D zt g r) (SP.same _) (fun _ h => h) (gi_S (List.mem_cons_of_mem _ (List.mem_append_left _ (List.mem_of_getElem? (i := 0) rfl))) (List.mem_cons_of_mem _ (List.mem_append_left _ (List.mem_of_getElem? (i := 1) rfl))) (List.mem_cons_of_mem _ (List.mem_append_left _ (List.mem_of_getElem? (i := 2) rfl))) (gi_sub (fun w h => (List.mem_cons_of_mem _ (List.mem_append_right _ (List.mem_append_right _ (List.mem_append_left _ h))))) zg_m91_X12_appends)) rfl rfl rfl (by decide +kernel) ⟨Nat.le_of_ble_eq_true rfl, Nat.le_of_ble_eq_true rfl⟩ rfl rfl (Nat.le_of_ble_eq_true rfl) ⟨Nat.le_of_ble_eq_true rfl, Nat.le_of_ble_eq_true rfl⟩ dX12_letters_6 (fun v ty' w' hp hk' => ?_)
  obtain ⟨rfl, rfl⟩ := hp
  show GW κ 7 0 0 (wM r g (upd iM0 14 (-1)) (up3 (up3 (up3 (up3 aM0 13 0 2) 16 0 8) 13 1 2) 16 1 8) (up3L (up3L (up3L (up3L (up3L (up3L (up3L (up3L (up3L (up3L lM0 6 0 275647447) 6 1 9451996) 6 2 40477) 6 3 6491892) 6 4 70517) 6 5 847604) 6 6 5146) 6 7 286880) 6 8 259565) 6 9 3379448)) 9 [(0, .int 114), (1, .int 97), (2, .int 110), (3, .int 103), (4, .int 101), (5, .int 0), (6, .int 0)] [.long 487]
  refine g_iload_n hk dX12_letters_9 rfl ?_
  refine g_callS (n := 2) hk (m92_X12_appends l D zt g r) (SP.same _) (fun _ h => h) (gi_S (List.mem_cons_of_mem _ (List.mem_append_left _ (List.mem_of_getElem? (i := 0) rfl))) (List.mem_cons_of_mem _ (List.mem_append_left _ (List.mem_of_getElem? (i := 1) rfl))) (List.mem_cons_of_mem _ (List.mem_append_left _ (List.mem_of_getElem? (i := 2) rfl))) (gi_sub (fun w h => (List.mem_cons_of_mem _ (List.mem_append_right _ (List.mem_append_right _ (List.mem_append_right _ (List.mem_append_left _ h)))))) zg_m92_X12_appends)) rfl rfl rfl (by decide +kernel) ⟨Nat.le_of_ble_eq_true rfl, Nat.le_of_ble_eq_true rfl⟩ rfl rfl (Nat.le_of_ble_eq_true rfl) ⟨Nat.le_of_ble_eq_true rfl, Nat.le_of_ble_eq_true rfl⟩ dX12_letters_10 (fun v ty' w' hp hk' => ?_)
  obtain ⟨rfl, rfl⟩ := hp
  show GW κ 7 0 0 (wM r g (upd iM0 14 (-1)) (up3 (up3 (up3 (up3 aM0 13 0 2) 16 0 8) 13 1 2) 16 1 8) (up3L (up3L (up3L (up3L (up3L (up3L (up3L (up3L (up3L (up3L lM0 6 0 275647447) 6 1 9451996) 6 2 40477) 6 3 6491892) 6 4 70517) 6 5 847604) 6 6 5146) 6 7 286880) 6 8 259565) 6 9 3379448)) 13 [(0, .int 114), (1, .int 97), (2, .int 110), (3, .int 103), (4, .int 101), (5, .int 0), (6, .int 0)] [.long 13163]
  refine g_iload_n hk dX12_letters_13 rfl ?_
  refine g_callS (n := 2) hk (m93_X12_appends l D zt g r) (SP.same _) (fun _ h => h) (gi_S (List.mem_cons_of_mem _ (List.mem_append_left _ (List.mem_of_getElem? (i := 0) rfl))) (List.mem_cons_of_mem _ (List.mem_append_left _ (List.mem_of_getElem? (i := 1) rfl))) (List.mem_cons_of_mem _ (List.mem_append_left _ (List.mem_of_getElem? (i := 2) rfl))) (gi_sub (fun w h => (List.mem_cons_of_mem _ (List.mem_append_right _ (List.mem_append_right _ (List.mem_append_right _ (List.mem_append_right _ (List.mem_append_left _ h))))))) zg_m93_X12_appends)) rfl rfl rfl (by decide +kernel) ⟨Nat.le_of_ble_eq_true rfl, Nat.le_of_ble_eq_true rfl⟩ rfl rfl (Nat.le_of_ble_eq_true rfl) ⟨Nat.le_of_ble_eq_true rfl, Nat.le_of_ble_eq_true rfl⟩ dX12_letters_14 (fun v ty' w' hp hk' => ?_)
  obtain ⟨rfl, rfl⟩ := hp
  show GW κ 7 0 0 (wM r g (upd iM0 14 (-1)) (up3 (up3 (up3 (up3 aM0 13 0 2) 16 0 8) 13 1 2) 16 1 8) (up3L (up3L (up3L (up3L (up3L (up3L (up3L (up3L (up3L (up3L lM0 6 0 275647447) 6 1 9451996) 6 2 40477) 6 3 6491892) 6 4 70517) 6 5 847604) 6 6 5146) 6 7 286880) 6 8 259565) 6 9 3379448)) 17 [(0, .int 114), (1, .int 97), (2, .int 110), (3, .int 103), (4, .int 101), (5, .int 0), (6, .int 0)] [.long 355408]
  refine g_iload hk dX12_letters_17 rfl ?_
  refine g_callS (n := 2) hk (m94_X12_appends l D zt g r) (SP.same _) (fun _ h => h) (gi_S (List.mem_cons_of_mem _ (List.mem_append_left _ (List.mem_of_getElem? (i := 0) rfl))) (List.mem_cons_of_mem _ (List.mem_append_left _ (List.mem_of_getElem? (i := 1) rfl))) (List.mem_cons_of_mem _ (List.mem_append_left _ (List.mem_of_getElem? (i := 2) rfl))) (gi_sub (fun w h => (List.mem_cons_of_mem _ (List.mem_append_right _ (List.mem_append_right _ (List.mem_append_right _ (List.mem_append_right _ (List.mem_append_right _ (List.mem_append_left _ h)))))))) zg_m94_X12_appends)) rfl rfl rfl (by decide +kernel) ⟨Nat.le_of_ble_eq_true rfl, Nat.le_of_ble_eq_true rfl⟩ rfl rfl (Nat.le_of_ble_eq_true rfl) ⟨Nat.le_of_ble_eq_true rfl, Nat.le_of_ble_eq_true rfl⟩ dX12_letters_19 (fun v ty' w' hp hk' => ?_)
  obtain ⟨rfl, rfl⟩ := hp
  show GW κ 7 0 0 (wM r g (upd iM0 14 (-1)) (up3 (up3 (up3 (up3 aM0 13 0 2) 16 0 8) 13 1 2) 16 1 8) (up3L (up3L (up3L (up3L (up3L (up3L (up3L (up3L (up3L (up3L lM0 6 0 275647447) 6 1 9451996) 6 2 40477) 6 3 6491892) 6 4 70517) 6 5 847604) 6 6 5146) 6 7 286880) 6 8 259565) 6 9 3379448)) 22 [(0, .int 114), (1, .int 97), (2, .int 110), (3, .int 103), (4, .int 101), (5, .int 0), (6, .int 0)] [.long 9596021]
  refine g_iload hk dX12_letters_22 rfl ?_
  refine g_callS (n := 2) hk (m95_X12_appends l D zt g r) (SP.same _) (fun _ h => h) (gi_S (List.mem_cons_of_mem _ (List.mem_append_left _ (List.mem_of_getElem? (i := 0) rfl))) (List.mem_cons_of_mem _ (List.mem_append_left _ (List.mem_of_getElem? (i := 1) rfl))) (List.mem_cons_of_mem _ (List.mem_append_left _ (List.mem_of_getElem? (i := 2) rfl))) (gi_sub (fun w h => (List.mem_cons_of_mem _ (List.mem_append_right _ (List.mem_append_right _ (List.mem_append_right _ (List.mem_append_right _ (List.mem_append_right _ (List.mem_append_right _ (List.mem_append_left _ h))))))))) zg_m95_X12_appends)) rfl rfl rfl (by decide +kernel) ⟨Nat.le_of_ble_eq_true rfl, Nat.le_of_ble_eq_true rfl⟩ rfl rfl (Nat.le_of_ble_eq_true rfl) ⟨Nat.le_of_ble_eq_true rfl, Nat.le_of_ble_eq_true rfl⟩ dX12_letters_24 (fun v ty' w' hp hk' => ?_)
  obtain ⟨rfl, rfl⟩ := hp
  show GW κ 7 0 0 (wM r g (upd iM0 14 (-1)) (up3 (up3 (up3 (up3 aM0 13 0 2) 16 0 8) 13 1 2) 16 1 8) (up3L (up3L (up3L (up3L (up3L (up3L (up3L (up3L (up3L (up3L lM0 6 0 275647447) 6 1 9451996) 6 2 40477) 6 3 6491892) 6 4 70517) 6 5 847604) 6 6 5146) 6 7 286880) 6 8 259565) 6 9 3379448)) 27 [(0, .int 114), (1, .int 97), (2, .int 110), (3, .int 103), (4, .int 101), (5, .int 0), (6, .int 0)] [.long 9596021]
  refine g_iload hk dX12_letters_27 rfl ?_
  refine g_callS (n := 2) hk (m95_X12_appends l D zt g r) (SP.same _) (fun _ h => h) (gi_S (List.mem_cons_of_mem _ (List.mem_append_left _ (List.mem_of_getElem? (i := 0) rfl))) (List.mem_cons_of_mem _ (List.mem_append_left _ (List.mem_of_getElem? (i := 1) rfl))) (List.mem_cons_of_mem _ (List.mem_append_left _ (List.mem_of_getElem? (i := 2) rfl))) (gi_sub (fun w h => (List.mem_cons_of_mem _ (List.mem_append_right _ (List.mem_append_right _ (List.mem_append_right _ (List.mem_append_right _ (List.mem_append_right _ (List.mem_append_right _ (List.mem_append_left _ h))))))))) zg_m95_X12_appends)) rfl rfl rfl (by decide +kernel) ⟨Nat.le_of_ble_eq_true rfl, Nat.le_of_ble_eq_true rfl⟩ rfl rfl (Nat.le_of_ble_eq_true rfl) ⟨Nat.le_of_ble_eq_true rfl, Nat.le_of_ble_eq_true rfl⟩ dX12_letters_29 (fun v ty' w' hp hk' => ?_)
  obtain ⟨rfl, rfl⟩ := hp
  show GW κ 7 0 0 (wM r g (upd iM0 14 (-1)) (up3 (up3 (up3 (up3 aM0 13 0 2) 16 0 8) 13 1 2) 16 1 8) (up3L (up3L (up3L (up3L (up3L (up3L (up3L (up3L (up3L (up3L lM0 6 0 275647447) 6 1 9451996) 6 2 40477) 6 3 6491892) 6 4 70517) 6 5 847604) 6 6 5146) 6 7 286880) 6 8 259565) 6 9 3379448)) 32 [(0, .int 114), (1, .int 97), (2, .int 110), (3, .int 103), (4, .int 101), (5, .int 0), (6, .int 0)] [.long 9596021]
  exact g_lret hk hR ⟨rfl, rfl⟩ dX12_letters_32
def wo_m97_X12_appends : List Cond := [Cond.constantLong RX12 133 (27)]
def wz_m97_X12_appends : List Cond := .code yX12_appends cX12_appends 3 (some .long) :: (wo_m97_X12_appends ++ ([] : List Cond))
theorem zg_m97_X12_appends : ∀ w ∈ wz_m97_X12_appends, goodWord w = true := zg_cons rfl (zg_app (by decide +kernel) zg_nil)
theorem zi_m97_X12_appends : ∀ w ∈ wz_m97_X12_appends, w ∈ lw_tbl := zi_cons zw_1370 (zi_app (zi_cons zw_1371 zi_nil) zi_nil)
set_option maxHeartbeats 4000000 in
set_option maxRecDepth 100000 in
theorem m97_X12_appends (l : Launch) (D : va_G) (zt : Nat × Nat × Nat) (g : Nat → ClassId) (r : Nat → Nat) : GM l D zt (tyM g) yX12_appends wz_m97_X12_appends ({ frames := 0, cells := 0, slots := 0, locals := 0 } : Room) [.long 0, .int 112] (wM r g (upd iM0 14 (-1)) (up3 (up3 (up3 (up3 aM0 13 0 2) 16 0 8) 13 1 2) 16 1 8) (up3L (up3L (up3L (up3L (up3L (up3L (up3L (up3L (up3L (up3L (up3L lM0 6 0 275647447) 6 1 9451996) 6 2 40477) 6 3 6491892) 6 4 70517) 6 5 847604) 6 6 5146) 6 7 286880) 6 8 259565) 6 9 3379448) 6 10 9596021)) (fun v _ w' => v = some (.long 16) ∧ w' = wM r g (upd iM0 14 (-1)) (up3 (up3 (up3 (up3 aM0 13 0 2) 16 0 8) 13 1 2) 16 1 8) (up3L (up3L (up3L (up3L (up3L (up3L (up3L (up3L (up3L (up3L (up3L lM0 6 0 275647447) 6 1 9451996) 6 2 40477) 6 3 6491892) 6 4 70517) 6 5 847604) 6 6 5146) 6 7 286880) 6 8 259565) 6 9 3379448) 6 10 9596021)) 0 0 := by
  refine GM.of (cc := cX12_appends) (maxL := 3) (ret := (some .long)) (own := RX12) (lv := [(0, .long 0), (2, .int 112)]) (by decide) rfl rfl (Nat.le_of_ble_eq_true rfl) rfl (fun κ sz hk hR hN => ?_)
  refine g_iload_n hk dX12_appends_0 rfl ?_
  refine g_if_ne (tgt := 8) (a := 112) hk dX12_appends_1 (by decide) rfl (fun _ => ?_) (fun z9 => absurd (show (112 : Int) ≠ (0 : Int) from by decide) z9)
  refine g_ldc2 (v := 27) hk (List.mem_cons_of_mem _ (List.mem_append_left _ (List.mem_of_getElem? (i := 0) rfl))) dX12_appends_8 ?_
  refine g_lload_n hk dX12_appends_11 rfl ?_
  refine g_lmul hk dX12_appends_12 ?_
  refine g_norml (v := 0) (by decide) ?_
  refine g_iload_n hk dX12_appends_13 rfl ?_
  refine g_bipush (v := 97) hk dX12_appends_14 (by decide) ?_
  refine g_isub hk dX12_appends_16 ?_
  refine g_norm (v := 15) (by decide) ?_
  refine g_iconst (v := 1) hk dX12_appends_17 (by decide) ?_
  refine g_iadd hk dX12_appends_18 ?_
  refine g_norm (v := 16) (by decide) ?_
  refine g_i2l (v := 16) hk dX12_appends_19 (by decide) ?_
  refine g_ladd hk dX12_appends_20 ?_
  refine g_norml (v := 16) (by decide) ?_
  exact g_lret hk hR ⟨rfl, rfl⟩ dX12_appends_21
def wo_m98_X12_appends : List Cond := [Cond.constantLong RX12 133 (27)]
def wz_m98_X12_appends : List Cond := .code yX12_appends cX12_appends 3 (some .long) :: (wo_m98_X12_appends ++ ([] : List Cond))
theorem zg_m98_X12_appends : ∀ w ∈ wz_m98_X12_appends, goodWord w = true := zg_cons rfl (zg_app (by decide +kernel) zg_nil)
theorem zi_m98_X12_appends : ∀ w ∈ wz_m98_X12_appends, w ∈ lw_tbl := zi_cons zw_1370 (zi_app (zi_cons zw_1371 zi_nil) zi_nil)
set_option maxHeartbeats 4000000 in
set_option maxRecDepth 100000 in
theorem m98_X12_appends (l : Launch) (D : va_G) (zt : Nat × Nat × Nat) (g : Nat → ClassId) (r : Nat → Nat) : GM l D zt (tyM g) yX12_appends wz_m98_X12_appends ({ frames := 0, cells := 0, slots := 0, locals := 0 } : Room) [.long 16, .int 108] (wM r g (upd iM0 14 (-1)) (up3 (up3 (up3 (up3 aM0 13 0 2) 16 0 8) 13 1 2) 16 1 8) (up3L (up3L (up3L (up3L (up3L (up3L (up3L (up3L (up3L (up3L (up3L lM0 6 0 275647447) 6 1 9451996) 6 2 40477) 6 3 6491892) 6 4 70517) 6 5 847604) 6 6 5146) 6 7 286880) 6 8 259565) 6 9 3379448) 6 10 9596021)) (fun v _ w' => v = some (.long 444) ∧ w' = wM r g (upd iM0 14 (-1)) (up3 (up3 (up3 (up3 aM0 13 0 2) 16 0 8) 13 1 2) 16 1 8) (up3L (up3L (up3L (up3L (up3L (up3L (up3L (up3L (up3L (up3L (up3L lM0 6 0 275647447) 6 1 9451996) 6 2 40477) 6 3 6491892) 6 4 70517) 6 5 847604) 6 6 5146) 6 7 286880) 6 8 259565) 6 9 3379448) 6 10 9596021)) 0 0 := by
  refine GM.of (cc := cX12_appends) (maxL := 3) (ret := (some .long)) (own := RX12) (lv := [(0, .long 16), (2, .int 108)]) (by decide) rfl rfl (Nat.le_of_ble_eq_true rfl) rfl (fun κ sz hk hR hN => ?_)
  refine g_iload_n hk dX12_appends_0 rfl ?_
  refine g_if_ne (tgt := 8) (a := 108) hk dX12_appends_1 (by decide) rfl (fun _ => ?_) (fun z9 => absurd (show (108 : Int) ≠ (0 : Int) from by decide) z9)
  refine g_ldc2 (v := 27) hk (List.mem_cons_of_mem _ (List.mem_append_left _ (List.mem_of_getElem? (i := 0) rfl))) dX12_appends_8 ?_
  refine g_lload_n hk dX12_appends_11 rfl ?_
  refine g_lmul hk dX12_appends_12 ?_
  refine g_norml (v := 432) (by decide) ?_
  refine g_iload_n hk dX12_appends_13 rfl ?_
  refine g_bipush (v := 97) hk dX12_appends_14 (by decide) ?_
  refine g_isub hk dX12_appends_16 ?_
  refine g_norm (v := 11) (by decide) ?_
  refine g_iconst (v := 1) hk dX12_appends_17 (by decide) ?_
  refine g_iadd hk dX12_appends_18 ?_
  refine g_norm (v := 12) (by decide) ?_
  refine g_i2l (v := 12) hk dX12_appends_19 (by decide) ?_
  refine g_ladd hk dX12_appends_20 ?_
  refine g_norml (v := 444) (by decide) ?_
  exact g_lret hk hR ⟨rfl, rfl⟩ dX12_appends_21
def wo_m99_X12_appends : List Cond := [Cond.constantLong RX12 133 (27)]
def wz_m99_X12_appends : List Cond := .code yX12_appends cX12_appends 3 (some .long) :: (wo_m99_X12_appends ++ ([] : List Cond))
theorem zg_m99_X12_appends : ∀ w ∈ wz_m99_X12_appends, goodWord w = true := zg_cons rfl (zg_app (by decide +kernel) zg_nil)
theorem zi_m99_X12_appends : ∀ w ∈ wz_m99_X12_appends, w ∈ lw_tbl := zi_cons zw_1370 (zi_app (zi_cons zw_1371 zi_nil) zi_nil)
set_option maxHeartbeats 4000000 in
set_option maxRecDepth 100000 in
theorem m99_X12_appends (l : Launch) (D : va_G) (zt : Nat × Nat × Nat) (g : Nat → ClassId) (r : Nat → Nat) : GM l D zt (tyM g) yX12_appends wz_m99_X12_appends ({ frames := 0, cells := 0, slots := 0, locals := 0 } : Room) [.long 444, .int 97] (wM r g (upd iM0 14 (-1)) (up3 (up3 (up3 (up3 aM0 13 0 2) 16 0 8) 13 1 2) 16 1 8) (up3L (up3L (up3L (up3L (up3L (up3L (up3L (up3L (up3L (up3L (up3L lM0 6 0 275647447) 6 1 9451996) 6 2 40477) 6 3 6491892) 6 4 70517) 6 5 847604) 6 6 5146) 6 7 286880) 6 8 259565) 6 9 3379448) 6 10 9596021)) (fun v _ w' => v = some (.long 11989) ∧ w' = wM r g (upd iM0 14 (-1)) (up3 (up3 (up3 (up3 aM0 13 0 2) 16 0 8) 13 1 2) 16 1 8) (up3L (up3L (up3L (up3L (up3L (up3L (up3L (up3L (up3L (up3L (up3L lM0 6 0 275647447) 6 1 9451996) 6 2 40477) 6 3 6491892) 6 4 70517) 6 5 847604) 6 6 5146) 6 7 286880) 6 8 259565) 6 9 3379448) 6 10 9596021)) 0 0 := by
  refine GM.of (cc := cX12_appends) (maxL := 3) (ret := (some .long)) (own := RX12) (lv := [(0, .long 444), (2, .int 97)]) (by decide) rfl rfl (Nat.le_of_ble_eq_true rfl) rfl (fun κ sz hk hR hN => ?_)
  refine g_iload_n hk dX12_appends_0 rfl ?_
  refine g_if_ne (tgt := 8) (a := 97) hk dX12_appends_1 (by decide) rfl (fun _ => ?_) (fun z9 => absurd (show (97 : Int) ≠ (0 : Int) from by decide) z9)
  refine g_ldc2 (v := 27) hk (List.mem_cons_of_mem _ (List.mem_append_left _ (List.mem_of_getElem? (i := 0) rfl))) dX12_appends_8 ?_
  refine g_lload_n hk dX12_appends_11 rfl ?_
  refine g_lmul hk dX12_appends_12 ?_
  refine g_norml (v := 11988) (by decide) ?_
  refine g_iload_n hk dX12_appends_13 rfl ?_
  refine g_bipush (v := 97) hk dX12_appends_14 (by decide) ?_
  refine g_isub hk dX12_appends_16 ?_
  refine g_norm (v := 0) (by decide) ?_
  refine g_iconst (v := 1) hk dX12_appends_17 (by decide) ?_
  refine g_iadd hk dX12_appends_18 ?_
  refine g_norm (v := 1) (by decide) ?_
  refine g_i2l (v := 1) hk dX12_appends_19 (by decide) ?_
  refine g_ladd hk dX12_appends_20 ?_
  refine g_norml (v := 11989) (by decide) ?_
  exact g_lret hk hR ⟨rfl, rfl⟩ dX12_appends_21
def wo_m100_X12_appends : List Cond := [Cond.constantLong RX12 133 (27)]
def wz_m100_X12_appends : List Cond := .code yX12_appends cX12_appends 3 (some .long) :: (wo_m100_X12_appends ++ ([] : List Cond))
theorem zg_m100_X12_appends : ∀ w ∈ wz_m100_X12_appends, goodWord w = true := zg_cons rfl (zg_app (by decide +kernel) zg_nil)
theorem zi_m100_X12_appends : ∀ w ∈ wz_m100_X12_appends, w ∈ lw_tbl := zi_cons zw_1370 (zi_app (zi_cons zw_1371 zi_nil) zi_nil)
set_option maxHeartbeats 4000000 in
set_option maxRecDepth 100000 in
theorem m100_X12_appends (l : Launch) (D : va_G) (zt : Nat × Nat × Nat) (g : Nat → ClassId) (r : Nat → Nat) : GM l D zt (tyM g) yX12_appends wz_m100_X12_appends ({ frames := 0, cells := 0, slots := 0, locals := 0 } : Room) [.long 11989, .int 105] (wM r g (upd iM0 14 (-1)) (up3 (up3 (up3 (up3 aM0 13 0 2) 16 0 8) 13 1 2) 16 1 8) (up3L (up3L (up3L (up3L (up3L (up3L (up3L (up3L (up3L (up3L (up3L lM0 6 0 275647447) 6 1 9451996) 6 2 40477) 6 3 6491892) 6 4 70517) 6 5 847604) 6 6 5146) 6 7 286880) 6 8 259565) 6 9 3379448) 6 10 9596021)) (fun v _ w' => v = some (.long 323712) ∧ w' = wM r g (upd iM0 14 (-1)) (up3 (up3 (up3 (up3 aM0 13 0 2) 16 0 8) 13 1 2) 16 1 8) (up3L (up3L (up3L (up3L (up3L (up3L (up3L (up3L (up3L (up3L (up3L lM0 6 0 275647447) 6 1 9451996) 6 2 40477) 6 3 6491892) 6 4 70517) 6 5 847604) 6 6 5146) 6 7 286880) 6 8 259565) 6 9 3379448) 6 10 9596021)) 0 0 := by
  refine GM.of (cc := cX12_appends) (maxL := 3) (ret := (some .long)) (own := RX12) (lv := [(0, .long 11989), (2, .int 105)]) (by decide) rfl rfl (Nat.le_of_ble_eq_true rfl) rfl (fun κ sz hk hR hN => ?_)
  refine g_iload_n hk dX12_appends_0 rfl ?_
  refine g_if_ne (tgt := 8) (a := 105) hk dX12_appends_1 (by decide) rfl (fun _ => ?_) (fun z9 => absurd (show (105 : Int) ≠ (0 : Int) from by decide) z9)
  refine g_ldc2 (v := 27) hk (List.mem_cons_of_mem _ (List.mem_append_left _ (List.mem_of_getElem? (i := 0) rfl))) dX12_appends_8 ?_
  refine g_lload_n hk dX12_appends_11 rfl ?_
  refine g_lmul hk dX12_appends_12 ?_
  refine g_norml (v := 323703) (by decide) ?_
  refine g_iload_n hk dX12_appends_13 rfl ?_
  refine g_bipush (v := 97) hk dX12_appends_14 (by decide) ?_
  refine g_isub hk dX12_appends_16 ?_
  refine g_norm (v := 8) (by decide) ?_
  refine g_iconst (v := 1) hk dX12_appends_17 (by decide) ?_
  refine g_iadd hk dX12_appends_18 ?_
  refine g_norm (v := 9) (by decide) ?_
  refine g_i2l (v := 9) hk dX12_appends_19 (by decide) ?_
  refine g_ladd hk dX12_appends_20 ?_
  refine g_norml (v := 323712) (by decide) ?_
  exact g_lret hk hR ⟨rfl, rfl⟩ dX12_appends_21
def wo_m101_X12_appends : List Cond := [Cond.constantLong RX12 133 (27)]
def wz_m101_X12_appends : List Cond := .code yX12_appends cX12_appends 3 (some .long) :: (wo_m101_X12_appends ++ ([] : List Cond))
theorem zg_m101_X12_appends : ∀ w ∈ wz_m101_X12_appends, goodWord w = true := zg_cons rfl (zg_app (by decide +kernel) zg_nil)
theorem zi_m101_X12_appends : ∀ w ∈ wz_m101_X12_appends, w ∈ lw_tbl := zi_cons zw_1370 (zi_app (zi_cons zw_1371 zi_nil) zi_nil)
set_option maxHeartbeats 4000000 in
set_option maxRecDepth 100000 in
theorem m101_X12_appends (l : Launch) (D : va_G) (zt : Nat × Nat × Nat) (g : Nat → ClassId) (r : Nat → Nat) : GM l D zt (tyM g) yX12_appends wz_m101_X12_appends ({ frames := 0, cells := 0, slots := 0, locals := 0 } : Room) [.long 323712, .int 110] (wM r g (upd iM0 14 (-1)) (up3 (up3 (up3 (up3 aM0 13 0 2) 16 0 8) 13 1 2) 16 1 8) (up3L (up3L (up3L (up3L (up3L (up3L (up3L (up3L (up3L (up3L (up3L lM0 6 0 275647447) 6 1 9451996) 6 2 40477) 6 3 6491892) 6 4 70517) 6 5 847604) 6 6 5146) 6 7 286880) 6 8 259565) 6 9 3379448) 6 10 9596021)) (fun v _ w' => v = some (.long 8740238) ∧ w' = wM r g (upd iM0 14 (-1)) (up3 (up3 (up3 (up3 aM0 13 0 2) 16 0 8) 13 1 2) 16 1 8) (up3L (up3L (up3L (up3L (up3L (up3L (up3L (up3L (up3L (up3L (up3L lM0 6 0 275647447) 6 1 9451996) 6 2 40477) 6 3 6491892) 6 4 70517) 6 5 847604) 6 6 5146) 6 7 286880) 6 8 259565) 6 9 3379448) 6 10 9596021)) 0 0 := by
  refine GM.of (cc := cX12_appends) (maxL := 3) (ret := (some .long)) (own := RX12) (lv := [(0, .long 323712), (2, .int 110)]) (by decide) rfl rfl (Nat.le_of_ble_eq_true rfl) rfl (fun κ sz hk hR hN => ?_)
  refine g_iload_n hk dX12_appends_0 rfl ?_
  refine g_if_ne (tgt := 8) (a := 110) hk dX12_appends_1 (by decide) rfl (fun _ => ?_) (fun z9 => absurd (show (110 : Int) ≠ (0 : Int) from by decide) z9)
  refine g_ldc2 (v := 27) hk (List.mem_cons_of_mem _ (List.mem_append_left _ (List.mem_of_getElem? (i := 0) rfl))) dX12_appends_8 ?_
  refine g_lload_n hk dX12_appends_11 rfl ?_
  refine g_lmul hk dX12_appends_12 ?_
  refine g_norml (v := 8740224) (by decide) ?_
  refine g_iload_n hk dX12_appends_13 rfl ?_
  refine g_bipush (v := 97) hk dX12_appends_14 (by decide) ?_
  refine g_isub hk dX12_appends_16 ?_
  refine g_norm (v := 13) (by decide) ?_
  refine g_iconst (v := 1) hk dX12_appends_17 (by decide) ?_
  refine g_iadd hk dX12_appends_18 ?_
  refine g_norm (v := 14) (by decide) ?_
  refine g_i2l (v := 14) hk dX12_appends_19 (by decide) ?_
  refine g_ladd hk dX12_appends_20 ?_
  refine g_norml (v := 8740238) (by decide) ?_
  exact g_lret hk hR ⟨rfl, rfl⟩ dX12_appends_21
def wo_m102_X12_appends : List Cond := []
def wz_m102_X12_appends : List Cond := .code yX12_appends cX12_appends 3 (some .long) :: (wo_m102_X12_appends ++ ([] : List Cond))
theorem zg_m102_X12_appends : ∀ w ∈ wz_m102_X12_appends, goodWord w = true := zg_cons rfl (zg_app (by decide +kernel) zg_nil)
theorem zi_m102_X12_appends : ∀ w ∈ wz_m102_X12_appends, w ∈ lw_tbl := zi_cons zw_1370 (zi_app zi_nil zi_nil)
set_option maxHeartbeats 4000000 in
set_option maxRecDepth 100000 in
theorem m102_X12_appends (l : Launch) (D : va_G) (zt : Nat × Nat × Nat) (g : Nat → ClassId) (r : Nat → Nat) : GM l D zt (tyM g) yX12_appends wz_m102_X12_appends ({ frames := 0, cells := 0, slots := 0, locals := 0 } : Room) [.long 8740238, .int 0] (wM r g (upd iM0 14 (-1)) (up3 (up3 (up3 (up3 aM0 13 0 2) 16 0 8) 13 1 2) 16 1 8) (up3L (up3L (up3L (up3L (up3L (up3L (up3L (up3L (up3L (up3L (up3L lM0 6 0 275647447) 6 1 9451996) 6 2 40477) 6 3 6491892) 6 4 70517) 6 5 847604) 6 6 5146) 6 7 286880) 6 8 259565) 6 9 3379448) 6 10 9596021)) (fun v _ w' => v = some (.long 8740238) ∧ w' = wM r g (upd iM0 14 (-1)) (up3 (up3 (up3 (up3 aM0 13 0 2) 16 0 8) 13 1 2) 16 1 8) (up3L (up3L (up3L (up3L (up3L (up3L (up3L (up3L (up3L (up3L (up3L lM0 6 0 275647447) 6 1 9451996) 6 2 40477) 6 3 6491892) 6 4 70517) 6 5 847604) 6 6 5146) 6 7 286880) 6 8 259565) 6 9 3379448) 6 10 9596021)) 0 0 := by
  refine GM.of (cc := cX12_appends) (maxL := 3) (ret := (some .long)) (own := RX12) (lv := [(0, .long 8740238), (2, .int 0)]) (by decide) rfl rfl (Nat.le_of_ble_eq_true rfl) rfl (fun κ sz hk hR hN => ?_)
  refine g_iload_n hk dX12_appends_0 rfl ?_
  refine g_if_ne (tgt := 8) (a := 0) hk dX12_appends_1 (by decide) rfl (fun z9 => absurd z9 (show ¬ ((0 : Int) ≠ (0 : Int)) from by decide)) (fun _ => ?_)
  refine g_lload_n hk dX12_appends_4 rfl ?_
  refine g_goto (tgt := 21) hk dX12_appends_5 (by decide) ?_
  exact g_lret hk hR ⟨rfl, rfl⟩ dX12_appends_21
def wo_m96_X12_letters : List Cond := [Cond.methodLink RX12 135 yX12_appends, Cond.static yX12_appends, Cond.initialized RX12]
def wz_m96_X12_letters : List Cond := .code yX12_letters cX12_letters 7 (some .long) :: (wo_m96_X12_letters ++ (wz_m97_X12_appends ++ (wz_m98_X12_appends ++ (wz_m99_X12_appends ++ (wz_m100_X12_appends ++ (wz_m101_X12_appends ++ (wz_m102_X12_appends ++ ([] : List Cond))))))))
theorem zg_m96_X12_letters : ∀ w ∈ wz_m96_X12_letters, goodWord w = true := zg_cons rfl (zg_app (by decide +kernel) (zg_app zg_m97_X12_appends (zg_app zg_m98_X12_appends (zg_app zg_m99_X12_appends (zg_app zg_m100_X12_appends (zg_app zg_m101_X12_appends (zg_app zg_m102_X12_appends zg_nil)))))))
theorem zi_m96_X12_letters : ∀ w ∈ wz_m96_X12_letters, w ∈ lw_tbl := zi_cons zw_1367 (zi_app (zi_cons zw_1368 (zi_cons zw_1369 (zi_cons zw_115 zi_nil))) (zi_app zi_m97_X12_appends (zi_app zi_m98_X12_appends (zi_app zi_m99_X12_appends (zi_app zi_m100_X12_appends (zi_app zi_m101_X12_appends (zi_app zi_m102_X12_appends zi_nil)))))))
set_option maxHeartbeats 4000000 in
set_option maxRecDepth 100000 in
theorem m96_X12_letters (l : Launch) (D : va_G) (zt : Nat × Nat × Nat) (g : Nat → ClassId) (r : Nat → Nat) : GM l D zt (tyM g) yX12_letters wz_m96_X12_letters ({ frames := 1, cells := 0, slots := 0, locals := 22 } : Room) [.int 112, .int 108, .int 97, .int 105, .int 110, .int 0, .int 0] (wM r g (upd iM0 14 (-1)) (up3 (up3 (up3 (up3 aM0 13 0 2) 16 0 8) 13 1 2) 16 1 8) (up3L (up3L (up3L (up3L (up3L (up3L (up3L (up3L (up3L (up3L (up3L lM0 6 0 275647447) 6 1 9451996) 6 2 40477) 6 3 6491892) 6 4 70517) 6 5 847604) 6 6 5146) 6 7 286880) 6 8 259565) 6 9 3379448) 6 10 9596021)) (fun v _ w' => v = some (.long 8740238) ∧ w' = wM r g (upd iM0 14 (-1)) (up3 (up3 (up3 (up3 aM0 13 0 2) 16 0 8) 13 1 2) 16 1 8) (up3L (up3L (up3L (up3L (up3L (up3L (up3L (up3L (up3L (up3L (up3L lM0 6 0 275647447) 6 1 9451996) 6 2 40477) 6 3 6491892) 6 4 70517) 6 5 847604) 6 6 5146) 6 7 286880) 6 8 259565) 6 9 3379448) 6 10 9596021)) 0 0 := by
  refine GM.of (cc := cX12_letters) (maxL := 7) (ret := (some .long)) (own := RX12) (lv := [(0, .int 112), (1, .int 108), (2, .int 97), (3, .int 105), (4, .int 110), (5, .int 0), (6, .int 0)]) (by decide) rfl rfl (Nat.le_of_ble_eq_true rfl) rfl (fun κ sz hk hR hN => ?_)
  refine g_lconst (v := 0) hk dX12_letters_0 (by decide) ?_
  refine g_iload_n hk dX12_letters_1 rfl ?_
  refine g_callS (n := 2) hk (m97_X12_appends l D zt g r) (SP.same _) (fun _ h => h) (gi_S (List.mem_cons_of_mem _ (List.mem_append_left _ (List.mem_of_getElem? (i := 0) rfl))) (List.mem_cons_of_mem _ (List.mem_append_left _ (List.mem_of_getElem? (i := 1) rfl))) (List.mem_cons_of_mem _ (List.mem_append_left _ (List.mem_of_getElem? (i := 2) rfl))) (gi_sub (fun w h => (List.mem_cons_of_mem _ (List.mem_append_right _ (List.mem_append_left _ h)))) zg_m97_X12_appends)) rfl rfl rfl (by decide +kernel) ⟨Nat.le_of_ble_eq_true rfl, Nat.le_of_ble_eq_true rfl⟩ rfl rfl (Nat.le_of_ble_eq_true rfl) ⟨Nat.le_of_ble_eq_true rfl, Nat.le_of_ble_eq_true rfl⟩ dX12_letters_2 (fun v ty' w' hp hk' => ?_)
  obtain ⟨rfl, rfl⟩ := hp
  show GW κ 7 0 0 (wM r g (upd iM0 14 (-1)) (up3 (up3 (up3 (up3 aM0 13 0 2) 16 0 8) 13 1 2) 16 1 8) (up3L (up3L (up3L (up3L (up3L (up3L (up3L (up3L (up3L (up3L (up3L lM0 6 0 275647447) 6 1 9451996) 6 2 40477) 6 3 6491892) 6 4 70517) 6 5 847604) 6 6 5146) 6 7 286880) 6 8 259565) 6 9 3379448) 6 10 9596021)) 5 [(0, .int 112), (1, .int 108), (2, .int 97), (3, .int 105), (4, .int 110), (5, .int 0), (6, .int 0)] [.long 16]
  refine g_iload_n hk dX12_letters_5 rfl ?_
  refine g_callS (n := 2) hk (m98_X12_appends l D zt g r) (SP.same _) (fun _ h => h) (gi_S (List.mem_cons_of_mem _ (List.mem_append_left _ (List.mem_of_getElem? (i := 0) rfl))) (List.mem_cons_of_mem _ (List.mem_append_left _ (List.mem_of_getElem? (i := 1) rfl))) (List.mem_cons_of_mem _ (List.mem_append_left _ (List.mem_of_getElem? (i := 2) rfl))) (gi_sub (fun w h => (List.mem_cons_of_mem _ (List.mem_append_right _ (List.mem_append_right _ (List.mem_append_left _ h))))) zg_m98_X12_appends)) rfl rfl rfl (by decide +kernel) ⟨Nat.le_of_ble_eq_true rfl, Nat.le_of_ble_eq_true rfl⟩ rfl rfl (Nat.le_of_ble_eq_true rfl) ⟨Nat.le_of_ble_eq_true rfl, Nat.le_of_ble_eq_true rfl⟩ dX12_letters_6 (fun v ty' w' hp hk' => ?_)
  obtain ⟨rfl, rfl⟩ := hp
  show GW κ 7 0 0 (wM r g (upd iM0 14 (-1)) (up3 (up3 (up3 (up3 aM0 13 0 2) 16 0 8) 13 1 2) 16 1 8) (up3L (up3L (up3L (up3L (up3L (up3L (up3L (up3L (up3L (up3L (up3L lM0 6 0 275647447) 6 1 9451996) 6 2 40477) 6 3 6491892) 6 4 70517) 6 5 847604) 6 6 5146) 6 7 286880) 6 8 259565) 6 9 3379448) 6 10 9596021)) 9 [(0, .int 112), (1, .int 108), (2, .int 97), (3, .int 105), (4, .int 110), (5, .int 0), (6, .int 0)] [.long 444]
  refine g_iload_n hk dX12_letters_9 rfl ?_
  refine g_callS (n := 2) hk (m99_X12_appends l D zt g r) (SP.same _) (fun _ h => h) (gi_S (List.mem_cons_of_mem _ (List.mem_append_left _ (List.mem_of_getElem? (i := 0) rfl))) (List.mem_cons_of_mem _ (List.mem_append_left _ (List.mem_of_getElem? (i := 1) rfl))) (List.mem_cons_of_mem _ (List.mem_append_left _ (List.mem_of_getElem? (i := 2) rfl))) (gi_sub (fun w h => (List.mem_cons_of_mem _ (List.mem_append_right _ (List.mem_append_right _ (List.mem_append_right _ (List.mem_append_left _ h)))))) zg_m99_X12_appends)) rfl rfl rfl (by decide +kernel) ⟨Nat.le_of_ble_eq_true rfl, Nat.le_of_ble_eq_true rfl⟩ rfl rfl (Nat.le_of_ble_eq_true rfl) ⟨Nat.le_of_ble_eq_true rfl, Nat.le_of_ble_eq_true rfl⟩ dX12_letters_10 (fun v ty' w' hp hk' => ?_)
  obtain ⟨rfl, rfl⟩ := hp
  show GW κ 7 0 0 (wM r g (upd iM0 14 (-1)) (up3 (up3 (up3 (up3 aM0 13 0 2) 16 0 8) 13 1 2) 16 1 8) (up3L (up3L (up3L (up3L (up3L (up3L (up3L (up3L (up3L (up3L (up3L lM0 6 0 275647447) 6 1 9451996) 6 2 40477) 6 3 6491892) 6 4 70517) 6 5 847604) 6 6 5146) 6 7 286880) 6 8 259565) 6 9 3379448) 6 10 9596021)) 13 [(0, .int 112), (1, .int 108), (2, .int 97), (3, .int 105), (4, .int 110), (5, .int 0), (6, .int 0)] [.long 11989]
  refine g_iload_n hk dX12_letters_13 rfl ?_
  refine g_callS (n := 2) hk (m100_X12_appends l D zt g r) (SP.same _) (fun _ h => h) (gi_S (List.mem_cons_of_mem _ (List.mem_append_left _ (List.mem_of_getElem? (i := 0) rfl))) (List.mem_cons_of_mem _ (List.mem_append_left _ (List.mem_of_getElem? (i := 1) rfl))) (List.mem_cons_of_mem _ (List.mem_append_left _ (List.mem_of_getElem? (i := 2) rfl))) (gi_sub (fun w h => (List.mem_cons_of_mem _ (List.mem_append_right _ (List.mem_append_right _ (List.mem_append_right _ (List.mem_append_right _ (List.mem_append_left _ h))))))) zg_m100_X12_appends)) rfl rfl rfl (by decide +kernel) ⟨Nat.le_of_ble_eq_true rfl, Nat.le_of_ble_eq_true rfl⟩ rfl rfl (Nat.le_of_ble_eq_true rfl) ⟨Nat.le_of_ble_eq_true rfl, Nat.le_of_ble_eq_true rfl⟩ dX12_letters_14 (fun v ty' w' hp hk' => ?_)
  obtain ⟨rfl, rfl⟩ := hp
  show GW κ 7 0 0 (wM r g (upd iM0 14 (-1)) (up3 (up3 (up3 (up3 aM0 13 0 2) 16 0 8) 13 1 2) 16 1 8) (up3L (up3L (up3L (up3L (up3L (up3L (up3L (up3L (up3L (up3L (up3L lM0 6 0 275647447) 6 1 9451996) 6 2 40477) 6 3 6491892) 6 4 70517) 6 5 847604) 6 6 5146) 6 7 286880) 6 8 259565) 6 9 3379448) 6 10 9596021)) 17 [(0, .int 112), (1, .int 108), (2, .int 97), (3, .int 105), (4, .int 110), (5, .int 0), (6, .int 0)] [.long 323712]
  refine g_iload hk dX12_letters_17 rfl ?_
  refine g_callS (n := 2) hk (m101_X12_appends l D zt g r) (SP.same _) (fun _ h => h) (gi_S (List.mem_cons_of_mem _ (List.mem_append_left _ (List.mem_of_getElem? (i := 0) rfl))) (List.mem_cons_of_mem _ (List.mem_append_left _ (List.mem_of_getElem? (i := 1) rfl))) (List.mem_cons_of_mem _ (List.mem_append_left _ (List.mem_of_getElem? (i := 2) rfl))) (gi_sub (fun w h => (List.mem_cons_of_mem _ (List.mem_append_right _ (List.mem_append_right _ (List.mem_append_right _ (List.mem_append_right _ (List.mem_append_right _ (List.mem_append_left _ h)))))))) zg_m101_X12_appends)) rfl rfl rfl (by decide +kernel) ⟨Nat.le_of_ble_eq_true rfl, Nat.le_of_ble_eq_true rfl⟩ rfl rfl (Nat.le_of_ble_eq_true rfl) ⟨Nat.le_of_ble_eq_true rfl, Nat.le_of_ble_eq_true rfl⟩ dX12_letters_19 (fun v ty' w' hp hk' => ?_)
  obtain ⟨rfl, rfl⟩ := hp
  show GW κ 7 0 0 (wM r g (upd iM0 14 (-1)) (up3 (up3 (up3 (up3 aM0 13 0 2) 16 0 8) 13 1 2) 16 1 8) (up3L (up3L (up3L (up3L (up3L (up3L (up3L (up3L (up3L (up3L (up3L lM0 6 0 275647447) 6 1 9451996) 6 2 40477) 6 3 6491892) 6 4 70517) 6 5 847604) 6 6 5146) 6 7 286880) 6 8 259565) 6 9 3379448) 6 10 9596021)) 22 [(0, .int 112), (1, .int 108), (2, .int 97), (3, .int 105), (4, .int 110), (5, .int 0), (6, .int 0)] [.long 8740238]
  refine g_iload hk dX12_letters_22 rfl ?_
  refine g_callS (n := 2) hk (m102_X12_appends l D zt g r) (SP.same _) (fun _ h => h) (gi_S (List.mem_cons_of_mem _ (List.mem_append_left _ (List.mem_of_getElem? (i := 0) rfl))) (List.mem_cons_of_mem _ (List.mem_append_left _ (List.mem_of_getElem? (i := 1) rfl))) (List.mem_cons_of_mem _ (List.mem_append_left _ (List.mem_of_getElem? (i := 2) rfl))) (gi_sub (fun w h => (List.mem_cons_of_mem _ (List.mem_append_right _ (List.mem_append_right _ (List.mem_append_right _ (List.mem_append_right _ (List.mem_append_right _ (List.mem_append_right _ (List.mem_append_left _ h))))))))) zg_m102_X12_appends)) rfl rfl rfl (by decide +kernel) ⟨Nat.le_of_ble_eq_true rfl, Nat.le_of_ble_eq_true rfl⟩ rfl rfl (Nat.le_of_ble_eq_true rfl) ⟨Nat.le_of_ble_eq_true rfl, Nat.le_of_ble_eq_true rfl⟩ dX12_letters_24 (fun v ty' w' hp hk' => ?_)
  obtain ⟨rfl, rfl⟩ := hp
  show GW κ 7 0 0 (wM r g (upd iM0 14 (-1)) (up3 (up3 (up3 (up3 aM0 13 0 2) 16 0 8) 13 1 2) 16 1 8) (up3L (up3L (up3L (up3L (up3L (up3L (up3L (up3L (up3L (up3L (up3L lM0 6 0 275647447) 6 1 9451996) 6 2 40477) 6 3 6491892) 6 4 70517) 6 5 847604) 6 6 5146) 6 7 286880) 6 8 259565) 6 9 3379448) 6 10 9596021)) 27 [(0, .int 112), (1, .int 108), (2, .int 97), (3, .int 105), (4, .int 110), (5, .int 0), (6, .int 0)] [.long 8740238]
  refine g_iload hk dX12_letters_27 rfl ?_
  refine g_callS (n := 2) hk (m102_X12_appends l D zt g r) (SP.same _) (fun _ h => h) (gi_S (List.mem_cons_of_mem _ (List.mem_append_left _ (List.mem_of_getElem? (i := 0) rfl))) (List.mem_cons_of_mem _ (List.mem_append_left _ (List.mem_of_getElem? (i := 1) rfl))) (List.mem_cons_of_mem _ (List.mem_append_left _ (List.mem_of_getElem? (i := 2) rfl))) (gi_sub (fun w h => (List.mem_cons_of_mem _ (List.mem_append_right _ (List.mem_append_right _ (List.mem_append_right _ (List.mem_append_right _ (List.mem_append_right _ (List.mem_append_right _ (List.mem_append_left _ h))))))))) zg_m102_X12_appends)) rfl rfl rfl (by decide +kernel) ⟨Nat.le_of_ble_eq_true rfl, Nat.le_of_ble_eq_true rfl⟩ rfl rfl (Nat.le_of_ble_eq_true rfl) ⟨Nat.le_of_ble_eq_true rfl, Nat.le_of_ble_eq_true rfl⟩ dX12_letters_29 (fun v ty' w' hp hk' => ?_)
  obtain ⟨rfl, rfl⟩ := hp
  show GW κ 7 0 0 (wM r g (upd iM0 14 (-1)) (up3 (up3 (up3 (up3 aM0 13 0 2) 16 0 8) 13 1 2) 16 1 8) (up3L (up3L (up3L (up3L (up3L (up3L (up3L (up3L (up3L (up3L (up3L lM0 6 0 275647447) 6 1 9451996) 6 2 40477) 6 3 6491892) 6 4 70517) 6 5 847604) 6 6 5146) 6 7 286880) 6 8 259565) 6 9 3379448) 6 10 9596021)) 32 [(0, .int 112), (1, .int 108), (2, .int 97), (3, .int 105), (4, .int 110), (5, .int 0), (6, .int 0)] [.long 8740238]
  exact g_lret hk hR ⟨rfl, rfl⟩ dX12_letters_32
def wo_m104_X12_appends : List Cond := [Cond.constantLong RX12 133 (27)]
def wz_m104_X12_appends : List Cond := .code yX12_appends cX12_appends 3 (some .long) :: (wo_m104_X12_appends ++ ([] : List Cond))
theorem zg_m104_X12_appends : ∀ w ∈ wz_m104_X12_appends, goodWord w = true := zg_cons rfl (zg_app (by decide +kernel) zg_nil)
theorem zi_m104_X12_appends : ∀ w ∈ wz_m104_X12_appends, w ∈ lw_tbl := zi_cons zw_1370 (zi_app (zi_cons zw_1371 zi_nil) zi_nil)
set_option maxHeartbeats 4000000 in
set_option maxRecDepth 100000 in
theorem m104_X12_appends (l : Launch) (D : va_G) (zt : Nat × Nat × Nat) (g : Nat → ClassId) (r : Nat → Nat) : GM l D zt (tyM g) yX12_appends wz_m104_X12_appends ({ frames := 0, cells := 0, slots := 0, locals := 0 } : Room) [.long 0, .int 115] (wM r g (upd iM0 14 (-1)) (up3 (up3 (up3 (up3 aM0 13 0 2) 16 0 8) 13 1 2) 16 1 8) (up3L (up3L (up3L (up3L (up3L (up3L (up3L (up3L (up3L (up3L (up3L (up3L lM0 6 0 275647447) 6 1 9451996) 6 2 40477) 6 3 6491892) 6 4 70517) 6 5 847604) 6 6 5146) 6 7 286880) 6 8 259565) 6 9 3379448) 6 10 9596021) 6 11 8740238)) (fun v _ w' => v = some (.long 19) ∧ w' = wM r g (upd iM0 14 (-1)) (up3 (up3 (up3 (up3 aM0 13 0 2) 16 0 8) 13 1 2) 16 1 8) (up3L (up3L (up3L (up3L (up3L (up3L (up3L (up3L (up3L (up3L (up3L (up3L lM0 6 0 275647447) 6 1 9451996) 6 2 40477) 6 3 6491892) 6 4 70517) 6 5 847604) 6 6 5146) 6 7 286880) 6 8 259565) 6 9 3379448) 6 10 9596021) 6 11 8740238)) 0 0 := by
  refine GM.of (cc := cX12_appends) (maxL := 3) (ret := (some .long)) (own := RX12) (lv := [(0, .long 0), (2, .int 115)]) (by decide) rfl rfl (Nat.le_of_ble_eq_true rfl) rfl (fun κ sz hk hR hN => ?_)
  refine g_iload_n hk dX12_appends_0 rfl ?_
  refine g_if_ne (tgt := 8) (a := 115) hk dX12_appends_1 (by decide) rfl (fun _ => ?_) (fun z9 => absurd (show (115 : Int) ≠ (0 : Int) from by decide) z9)
  refine g_ldc2 (v := 27) hk (List.mem_cons_of_mem _ (List.mem_append_left _ (List.mem_of_getElem? (i := 0) rfl))) dX12_appends_8 ?_
  refine g_lload_n hk dX12_appends_11 rfl ?_
  refine g_lmul hk dX12_appends_12 ?_
  refine g_norml (v := 0) (by decide) ?_
  refine g_iload_n hk dX12_appends_13 rfl ?_
  refine g_bipush (v := 97) hk dX12_appends_14 (by decide) ?_
  refine g_isub hk dX12_appends_16 ?_
  refine g_norm (v := 18) (by decide) ?_
  refine g_iconst (v := 1) hk dX12_appends_17 (by decide) ?_
  refine g_iadd hk dX12_appends_18 ?_
  refine g_norm (v := 19) (by decide) ?_
  refine g_i2l (v := 19) hk dX12_appends_19 (by decide) ?_
  refine g_ladd hk dX12_appends_20 ?_
  refine g_norml (v := 19) (by decide) ?_
  exact g_lret hk hR ⟨rfl, rfl⟩ dX12_appends_21
def wo_m105_X12_appends : List Cond := [Cond.constantLong RX12 133 (27)]
def wz_m105_X12_appends : List Cond := .code yX12_appends cX12_appends 3 (some .long) :: (wo_m105_X12_appends ++ ([] : List Cond))
theorem zg_m105_X12_appends : ∀ w ∈ wz_m105_X12_appends, goodWord w = true := zg_cons rfl (zg_app (by decide +kernel) zg_nil)
theorem zi_m105_X12_appends : ∀ w ∈ wz_m105_X12_appends, w ∈ lw_tbl := zi_cons zw_1370 (zi_app (zi_cons zw_1371 zi_nil) zi_nil)
set_option maxHeartbeats 4000000 in
set_option maxRecDepth 100000 in
theorem m105_X12_appends (l : Launch) (D : va_G) (zt : Nat × Nat × Nat) (g : Nat → ClassId) (r : Nat → Nat) : GM l D zt (tyM g) yX12_appends wz_m105_X12_appends ({ frames := 0, cells := 0, slots := 0, locals := 0 } : Room) [.long 19, .int 113] (wM r g (upd iM0 14 (-1)) (up3 (up3 (up3 (up3 aM0 13 0 2) 16 0 8) 13 1 2) 16 1 8) (up3L (up3L (up3L (up3L (up3L (up3L (up3L (up3L (up3L (up3L (up3L (up3L lM0 6 0 275647447) 6 1 9451996) 6 2 40477) 6 3 6491892) 6 4 70517) 6 5 847604) 6 6 5146) 6 7 286880) 6 8 259565) 6 9 3379448) 6 10 9596021) 6 11 8740238)) (fun v _ w' => v = some (.long 530) ∧ w' = wM r g (upd iM0 14 (-1)) (up3 (up3 (up3 (up3 aM0 13 0 2) 16 0 8) 13 1 2) 16 1 8) (up3L (up3L (up3L (up3L (up3L (up3L (up3L (up3L (up3L (up3L (up3L (up3L lM0 6 0 275647447) 6 1 9451996) 6 2 40477) 6 3 6491892) 6 4 70517) 6 5 847604) 6 6 5146) 6 7 286880) 6 8 259565) 6 9 3379448) 6 10 9596021) 6 11 8740238)) 0 0 := by
  refine GM.of (cc := cX12_appends) (maxL := 3) (ret := (some .long)) (own := RX12) (lv := [(0, .long 19), (2, .int 113)]) (by decide) rfl rfl (Nat.le_of_ble_eq_true rfl) rfl (fun κ sz hk hR hN => ?_)
  refine g_iload_n hk dX12_appends_0 rfl ?_
  refine g_if_ne (tgt := 8) (a := 113) hk dX12_appends_1 (by decide) rfl (fun _ => ?_) (fun z9 => absurd (show (113 : Int) ≠ (0 : Int) from by decide) z9)
  refine g_ldc2 (v := 27) hk (List.mem_cons_of_mem _ (List.mem_append_left _ (List.mem_of_getElem? (i := 0) rfl))) dX12_appends_8 ?_
  refine g_lload_n hk dX12_appends_11 rfl ?_
  refine g_lmul hk dX12_appends_12 ?_
  refine g_norml (v := 513) (by decide) ?_
  refine g_iload_n hk dX12_appends_13 rfl ?_
  refine g_bipush (v := 97) hk dX12_appends_14 (by decide) ?_
  refine g_isub hk dX12_appends_16 ?_
  refine g_norm (v := 16) (by decide) ?_
  refine g_iconst (v := 1) hk dX12_appends_17 (by decide) ?_
  refine g_iadd hk dX12_appends_18 ?_
  refine g_norm (v := 17) (by decide) ?_
  refine g_i2l (v := 17) hk dX12_appends_19 (by decide) ?_
  refine g_ladd hk dX12_appends_20 ?_
  refine g_norml (v := 530) (by decide) ?_
  exact g_lret hk hR ⟨rfl, rfl⟩ dX12_appends_21
def wo_m106_X12_appends : List Cond := [Cond.constantLong RX12 133 (27)]
def wz_m106_X12_appends : List Cond := .code yX12_appends cX12_appends 3 (some .long) :: (wo_m106_X12_appends ++ ([] : List Cond))
theorem zg_m106_X12_appends : ∀ w ∈ wz_m106_X12_appends, goodWord w = true := zg_cons rfl (zg_app (by decide +kernel) zg_nil)
theorem zi_m106_X12_appends : ∀ w ∈ wz_m106_X12_appends, w ∈ lw_tbl := zi_cons zw_1370 (zi_app (zi_cons zw_1371 zi_nil) zi_nil)
set_option maxHeartbeats 4000000 in
set_option maxRecDepth 100000 in
theorem m106_X12_appends (l : Launch) (D : va_G) (zt : Nat × Nat × Nat) (g : Nat → ClassId) (r : Nat → Nat) : GM l D zt (tyM g) yX12_appends wz_m106_X12_appends ({ frames := 0, cells := 0, slots := 0, locals := 0 } : Room) [.long 530, .int 117] (wM r g (upd iM0 14 (-1)) (up3 (up3 (up3 (up3 aM0 13 0 2) 16 0 8) 13 1 2) 16 1 8) (up3L (up3L (up3L (up3L (up3L (up3L (up3L (up3L (up3L (up3L (up3L (up3L lM0 6 0 275647447) 6 1 9451996) 6 2 40477) 6 3 6491892) 6 4 70517) 6 5 847604) 6 6 5146) 6 7 286880) 6 8 259565) 6 9 3379448) 6 10 9596021) 6 11 8740238)) (fun v _ w' => v = some (.long 14331) ∧ w' = wM r g (upd iM0 14 (-1)) (up3 (up3 (up3 (up3 aM0 13 0 2) 16 0 8) 13 1 2) 16 1 8) (up3L (up3L (up3L (up3L (up3L (up3L (up3L (up3L (up3L (up3L (up3L (up3L lM0 6 0 275647447) 6 1 9451996) 6 2 40477) 6 3 6491892) 6 4 70517) 6 5 847604) 6 6 5146) 6 7 286880) 6 8 259565) 6 9 3379448) 6 10 9596021) 6 11 8740238)) 0 0 := by
  refine GM.of (cc := cX12_appends) (maxL := 3) (ret := (some .long)) (own := RX12) (lv := [(0, .long 530), (2, .int 117)]) (by decide) rfl rfl (Nat.le_of_ble_eq_true rfl) rfl (fun κ sz hk hR hN => ?_)
  refine g_iload_n hk dX12_appends_0 rfl ?_
  refine g_if_ne (tgt := 8) (a := 117) hk dX12_appends_1 (by decide) rfl (fun _ => ?_) (fun z9 => absurd (show (117 : Int) ≠ (0 : Int) from by decide) z9)
  refine g_ldc2 (v := 27) hk (List.mem_cons_of_mem _ (List.mem_append_left _ (List.mem_of_getElem? (i := 0) rfl))) dX12_appends_8 ?_
  refine g_lload_n hk dX12_appends_11 rfl ?_
  refine g_lmul hk dX12_appends_12 ?_
  refine g_norml (v := 14310) (by decide) ?_
  refine g_iload_n hk dX12_appends_13 rfl ?_
  refine g_bipush (v := 97) hk dX12_appends_14 (by decide) ?_
  refine g_isub hk dX12_appends_16 ?_
  refine g_norm (v := 20) (by decide) ?_
  refine g_iconst (v := 1) hk dX12_appends_17 (by decide) ?_
  refine g_iadd hk dX12_appends_18 ?_
  refine g_norm (v := 21) (by decide) ?_
  refine g_i2l (v := 21) hk dX12_appends_19 (by decide) ?_
  refine g_ladd hk dX12_appends_20 ?_
  refine g_norml (v := 14331) (by decide) ?_
  exact g_lret hk hR ⟨rfl, rfl⟩ dX12_appends_21
def wo_m107_X12_appends : List Cond := [Cond.constantLong RX12 133 (27)]
def wz_m107_X12_appends : List Cond := .code yX12_appends cX12_appends 3 (some .long) :: (wo_m107_X12_appends ++ ([] : List Cond))
theorem zg_m107_X12_appends : ∀ w ∈ wz_m107_X12_appends, goodWord w = true := zg_cons rfl (zg_app (by decide +kernel) zg_nil)
theorem zi_m107_X12_appends : ∀ w ∈ wz_m107_X12_appends, w ∈ lw_tbl := zi_cons zw_1370 (zi_app (zi_cons zw_1371 zi_nil) zi_nil)
set_option maxHeartbeats 4000000 in
set_option maxRecDepth 100000 in
theorem m107_X12_appends (l : Launch) (D : va_G) (zt : Nat × Nat × Nat) (g : Nat → ClassId) (r : Nat → Nat) : GM l D zt (tyM g) yX12_appends wz_m107_X12_appends ({ frames := 0, cells := 0, slots := 0, locals := 0 } : Room) [.long 14331, .int 97] (wM r g (upd iM0 14 (-1)) (up3 (up3 (up3 (up3 aM0 13 0 2) 16 0 8) 13 1 2) 16 1 8) (up3L (up3L (up3L (up3L (up3L (up3L (up3L (up3L (up3L (up3L (up3L (up3L lM0 6 0 275647447) 6 1 9451996) 6 2 40477) 6 3 6491892) 6 4 70517) 6 5 847604) 6 6 5146) 6 7 286880) 6 8 259565) 6 9 3379448) 6 10 9596021) 6 11 8740238)) (fun v _ w' => v = some (.long 386938) ∧ w' = wM r g (upd iM0 14 (-1)) (up3 (up3 (up3 (up3 aM0 13 0 2) 16 0 8) 13 1 2) 16 1 8) (up3L (up3L (up3L (up3L (up3L (up3L (up3L (up3L (up3L (up3L (up3L (up3L lM0 6 0 275647447) 6 1 9451996) 6 2 40477) 6 3 6491892) 6 4 70517) 6 5 847604) 6 6 5146) 6 7 286880) 6 8 259565) 6 9 3379448) 6 10 9596021) 6 11 8740238)) 0 0 := by
  refine GM.of (cc := cX12_appends) (maxL := 3) (ret := (some .long)) (own := RX12) (lv := [(0, .long 14331), (2, .int 97)]) (by decide) rfl rfl (Nat.le_of_ble_eq_true rfl) rfl (fun κ sz hk hR hN => ?_)
  refine g_iload_n hk dX12_appends_0 rfl ?_
  refine g_if_ne (tgt := 8) (a := 97) hk dX12_appends_1 (by decide) rfl (fun _ => ?_) (fun z9 => absurd (show (97 : Int) ≠ (0 : Int) from by decide) z9)
  refine g_ldc2 (v := 27) hk (List.mem_cons_of_mem _ (List.mem_append_left _ (List.mem_of_getElem? (i := 0) rfl))) dX12_appends_8 ?_
  refine g_lload_n hk dX12_appends_11 rfl ?_
  refine g_lmul hk dX12_appends_12 ?_
  refine g_norml (v := 386937) (by decide) ?_
  refine g_iload_n hk dX12_appends_13 rfl ?_
  refine g_bipush (v := 97) hk dX12_appends_14 (by decide) ?_
  refine g_isub hk dX12_appends_16 ?_
  refine g_norm (v := 0) (by decide) ?_
  refine g_iconst (v := 1) hk dX12_appends_17 (by decide) ?_
  refine g_iadd hk dX12_appends_18 ?_
  refine g_norm (v := 1) (by decide) ?_
  refine g_i2l (v := 1) hk dX12_appends_19 (by decide) ?_
  refine g_ladd hk dX12_appends_20 ?_
  refine g_norml (v := 386938) (by decide) ?_
  exact g_lret hk hR ⟨rfl, rfl⟩ dX12_appends_21
def wo_m108_X12_appends : List Cond := [Cond.constantLong RX12 133 (27)]
def wz_m108_X12_appends : List Cond := .code yX12_appends cX12_appends 3 (some .long) :: (wo_m108_X12_appends ++ ([] : List Cond))
theorem zg_m108_X12_appends : ∀ w ∈ wz_m108_X12_appends, goodWord w = true := zg_cons rfl (zg_app (by decide +kernel) zg_nil)
theorem zi_m108_X12_appends : ∀ w ∈ wz_m108_X12_appends, w ∈ lw_tbl := zi_cons zw_1370 (zi_app (zi_cons zw_1371 zi_nil) zi_nil)
set_option maxHeartbeats 4000000 in
set_option maxRecDepth 100000 in
theorem m108_X12_appends (l : Launch) (D : va_G) (zt : Nat × Nat × Nat) (g : Nat → ClassId) (r : Nat → Nat) : GM l D zt (tyM g) yX12_appends wz_m108_X12_appends ({ frames := 0, cells := 0, slots := 0, locals := 0 } : Room) [.long 386938, .int 114] (wM r g (upd iM0 14 (-1)) (up3 (up3 (up3 (up3 aM0 13 0 2) 16 0 8) 13 1 2) 16 1 8) (up3L (up3L (up3L (up3L (up3L (up3L (up3L (up3L (up3L (up3L (up3L (up3L lM0 6 0 275647447) 6 1 9451996) 6 2 40477) 6 3 6491892) 6 4 70517) 6 5 847604) 6 6 5146) 6 7 286880) 6 8 259565) 6 9 3379448) 6 10 9596021) 6 11 8740238)) (fun v _ w' => v = some (.long 10447344) ∧ w' = wM r g (upd iM0 14 (-1)) (up3 (up3 (up3 (up3 aM0 13 0 2) 16 0 8) 13 1 2) 16 1 8) (up3L (up3L (up3L (up3L (up3L (up3L (up3L (up3L (up3L (up3L (up3L (up3L lM0 6 0 275647447) 6 1 9451996) 6 2 40477) 6 3 6491892) 6 4 70517) 6 5 847604) 6 6 5146) 6 7 286880) 6 8 259565) 6 9 3379448) 6 10 9596021) 6 11 8740238)) 0 0 := by
  refine GM.of (cc := cX12_appends) (maxL := 3) (ret := (some .long)) (own := RX12) (lv := [(0, .long 386938), (2, .int 114)]) (by decide) rfl rfl (Nat.le_of_ble_eq_true rfl) rfl (fun κ sz hk hR hN => ?_)
  refine g_iload_n hk dX12_appends_0 rfl ?_
  refine g_if_ne (tgt := 8) (a := 114) hk dX12_appends_1 (by decide) rfl (fun _ => ?_) (fun z9 => absurd (show (114 : Int) ≠ (0 : Int) from by decide) z9)
  refine g_ldc2 (v := 27) hk (List.mem_cons_of_mem _ (List.mem_append_left _ (List.mem_of_getElem? (i := 0) rfl))) dX12_appends_8 ?_
  refine g_lload_n hk dX12_appends_11 rfl ?_
  refine g_lmul hk dX12_appends_12 ?_
  refine g_norml (v := 10447326) (by decide) ?_
  refine g_iload_n hk dX12_appends_13 rfl ?_
  refine g_bipush (v := 97) hk dX12_appends_14 (by decide) ?_
  refine g_isub hk dX12_appends_16 ?_
  refine g_norm (v := 17) (by decide) ?_
  refine g_iconst (v := 1) hk dX12_appends_17 (by decide) ?_
  refine g_iadd hk dX12_appends_18 ?_
  refine g_norm (v := 18) (by decide) ?_
  refine g_i2l (v := 18) hk dX12_appends_19 (by decide) ?_
  refine g_ladd hk dX12_appends_20 ?_
  refine g_norml (v := 10447344) (by decide) ?_
  exact g_lret hk hR ⟨rfl, rfl⟩ dX12_appends_21
def wo_m109_X12_appends : List Cond := [Cond.constantLong RX12 133 (27)]
def wz_m109_X12_appends : List Cond := .code yX12_appends cX12_appends 3 (some .long) :: (wo_m109_X12_appends ++ ([] : List Cond))
theorem zg_m109_X12_appends : ∀ w ∈ wz_m109_X12_appends, goodWord w = true := zg_cons rfl (zg_app (by decide +kernel) zg_nil)
theorem zi_m109_X12_appends : ∀ w ∈ wz_m109_X12_appends, w ∈ lw_tbl := zi_cons zw_1370 (zi_app (zi_cons zw_1371 zi_nil) zi_nil)
set_option maxHeartbeats 4000000 in
set_option maxRecDepth 100000 in
theorem m109_X12_appends (l : Launch) (D : va_G) (zt : Nat × Nat × Nat) (g : Nat → ClassId) (r : Nat → Nat) : GM l D zt (tyM g) yX12_appends wz_m109_X12_appends ({ frames := 0, cells := 0, slots := 0, locals := 0 } : Room) [.long 10447344, .int 101] (wM r g (upd iM0 14 (-1)) (up3 (up3 (up3 (up3 aM0 13 0 2) 16 0 8) 13 1 2) 16 1 8) (up3L (up3L (up3L (up3L (up3L (up3L (up3L (up3L (up3L (up3L (up3L (up3L lM0 6 0 275647447) 6 1 9451996) 6 2 40477) 6 3 6491892) 6 4 70517) 6 5 847604) 6 6 5146) 6 7 286880) 6 8 259565) 6 9 3379448) 6 10 9596021) 6 11 8740238)) (fun v _ w' => v = some (.long 282078293) ∧ w' = wM r g (upd iM0 14 (-1)) (up3 (up3 (up3 (up3 aM0 13 0 2) 16 0 8) 13 1 2) 16 1 8) (up3L (up3L (up3L (up3L (up3L (up3L (up3L (up3L (up3L (up3L (up3L (up3L lM0 6 0 275647447) 6 1 9451996) 6 2 40477) 6 3 6491892) 6 4 70517) 6 5 847604) 6 6 5146) 6 7 286880) 6 8 259565) 6 9 3379448) 6 10 9596021) 6 11 8740238)) 0 0 := by
  refine GM.of (cc := cX12_appends) (maxL := 3) (ret := (some .long)) (own := RX12) (lv := [(0, .long 10447344), (2, .int 101)]) (by decide) rfl rfl (Nat.le_of_ble_eq_true rfl) rfl (fun κ sz hk hR hN => ?_)
  refine g_iload_n hk dX12_appends_0 rfl ?_
  refine g_if_ne (tgt := 8) (a := 101) hk dX12_appends_1 (by decide) rfl (fun _ => ?_) (fun z9 => absurd (show (101 : Int) ≠ (0 : Int) from by decide) z9)
  refine g_ldc2 (v := 27) hk (List.mem_cons_of_mem _ (List.mem_append_left _ (List.mem_of_getElem? (i := 0) rfl))) dX12_appends_8 ?_
  refine g_lload_n hk dX12_appends_11 rfl ?_
  refine g_lmul hk dX12_appends_12 ?_
  refine g_norml (v := 282078288) (by decide) ?_
  refine g_iload_n hk dX12_appends_13 rfl ?_
  refine g_bipush (v := 97) hk dX12_appends_14 (by decide) ?_
  refine g_isub hk dX12_appends_16 ?_
  refine g_norm (v := 4) (by decide) ?_
  refine g_iconst (v := 1) hk dX12_appends_17 (by decide) ?_
  refine g_iadd hk dX12_appends_18 ?_
  refine g_norm (v := 5) (by decide) ?_
  refine g_i2l (v := 5) hk dX12_appends_19 (by decide) ?_
  refine g_ladd hk dX12_appends_20 ?_
  refine g_norml (v := 282078293) (by decide) ?_
  exact g_lret hk hR ⟨rfl, rfl⟩ dX12_appends_21
def wo_m110_X12_appends : List Cond := []
def wz_m110_X12_appends : List Cond := .code yX12_appends cX12_appends 3 (some .long) :: (wo_m110_X12_appends ++ ([] : List Cond))
theorem zg_m110_X12_appends : ∀ w ∈ wz_m110_X12_appends, goodWord w = true := zg_cons rfl (zg_app (by decide +kernel) zg_nil)
theorem zi_m110_X12_appends : ∀ w ∈ wz_m110_X12_appends, w ∈ lw_tbl := zi_cons zw_1370 (zi_app zi_nil zi_nil)
set_option maxHeartbeats 4000000 in
set_option maxRecDepth 100000 in
theorem m110_X12_appends (l : Launch) (D : va_G) (zt : Nat × Nat × Nat) (g : Nat → ClassId) (r : Nat → Nat) : GM l D zt (tyM g) yX12_appends wz_m110_X12_appends ({ frames := 0, cells := 0, slots := 0, locals := 0 } : Room) [.long 282078293, .int 0] (wM r g (upd iM0 14 (-1)) (up3 (up3 (up3 (up3 aM0 13 0 2) 16 0 8) 13 1 2) 16 1 8) (up3L (up3L (up3L (up3L (up3L (up3L (up3L (up3L (up3L (up3L (up3L (up3L lM0 6 0 275647447) 6 1 9451996) 6 2 40477) 6 3 6491892) 6 4 70517) 6 5 847604) 6 6 5146) 6 7 286880) 6 8 259565) 6 9 3379448) 6 10 9596021) 6 11 8740238)) (fun v _ w' => v = some (.long 282078293) ∧ w' = wM r g (upd iM0 14 (-1)) (up3 (up3 (up3 (up3 aM0 13 0 2) 16 0 8) 13 1 2) 16 1 8) (up3L (up3L (up3L (up3L (up3L (up3L (up3L (up3L (up3L (up3L (up3L (up3L lM0 6 0 275647447) 6 1 9451996) 6 2 40477) 6 3 6491892) 6 4 70517) 6 5 847604) 6 6 5146) 6 7 286880) 6 8 259565) 6 9 3379448) 6 10 9596021) 6 11 8740238)) 0 0 := by
  refine GM.of (cc := cX12_appends) (maxL := 3) (ret := (some .long)) (own := RX12) (lv := [(0, .long 282078293), (2, .int 0)]) (by decide) rfl rfl (Nat.le_of_ble_eq_true rfl) rfl (fun κ sz hk hR hN => ?_)
  refine g_iload_n hk dX12_appends_0 rfl ?_
  refine g_if_ne (tgt := 8) (a := 0) hk dX12_appends_1 (by decide) rfl (fun z9 => absurd z9 (show ¬ ((0 : Int) ≠ (0 : Int)) from by decide)) (fun _ => ?_)
  refine g_lload_n hk dX12_appends_4 rfl ?_
  refine g_goto (tgt := 21) hk dX12_appends_5 (by decide) ?_
  exact g_lret hk hR ⟨rfl, rfl⟩ dX12_appends_21
def wo_m103_X12_letters : List Cond := [Cond.methodLink RX12 135 yX12_appends, Cond.static yX12_appends, Cond.initialized RX12]
def wz_m103_X12_letters : List Cond := .code yX12_letters cX12_letters 7 (some .long) :: (wo_m103_X12_letters ++ (wz_m104_X12_appends ++ (wz_m105_X12_appends ++ (wz_m106_X12_appends ++ (wz_m107_X12_appends ++ (wz_m108_X12_appends ++ (wz_m109_X12_appends ++ (wz_m110_X12_appends ++ ([] : List Cond)))))))))
theorem zg_m103_X12_letters : ∀ w ∈ wz_m103_X12_letters, goodWord w = true := zg_cons rfl (zg_app (by decide +kernel) (zg_app zg_m104_X12_appends (zg_app zg_m105_X12_appends (zg_app zg_m106_X12_appends (zg_app zg_m107_X12_appends (zg_app zg_m108_X12_appends (zg_app zg_m109_X12_appends (zg_app zg_m110_X12_appends zg_nil))))))))
theorem zi_m103_X12_letters : ∀ w ∈ wz_m103_X12_letters, w ∈ lw_tbl := zi_cons zw_1367 (zi_app (zi_cons zw_1368 (zi_cons zw_1369 (zi_cons zw_115 zi_nil))) (zi_app zi_m104_X12_appends (zi_app zi_m105_X12_appends (zi_app zi_m106_X12_appends (zi_app zi_m107_X12_appends (zi_app zi_m108_X12_appends (zi_app zi_m109_X12_appends (zi_app zi_m110_X12_appends zi_nil))))))))
set_option maxHeartbeats 4000000 in
set_option maxRecDepth 100000 in
theorem m103_X12_letters (l : Launch) (D : va_G) (zt : Nat × Nat × Nat) (g : Nat → ClassId) (r : Nat → Nat) : GM l D zt (tyM g) yX12_letters wz_m103_X12_letters ({ frames := 1, cells := 0, slots := 0, locals := 22 } : Room) [.int 115, .int 113, .int 117, .int 97, .int 114, .int 101, .int 0] (wM r g (upd iM0 14 (-1)) (up3 (up3 (up3 (up3 aM0 13 0 2) 16 0 8) 13 1 2) 16 1 8) (up3L (up3L (up3L (up3L (up3L (up3L (up3L (up3L (up3L (up3L (up3L (up3L lM0 6 0 275647447) 6 1 9451996) 6 2 40477) 6 3 6491892) 6 4 70517) 6 5 847604) 6 6 5146) 6 7 286880) 6 8 259565) 6 9 3379448) 6 10 9596021) 6 11 8740238)) (fun v _ w' => v = some (.long 282078293) ∧ w' = wM r g (upd iM0 14 (-1)) (up3 (up3 (up3 (up3 aM0 13 0 2) 16 0 8) 13 1 2) 16 1 8) (up3L (up3L (up3L (up3L (up3L (up3L (up3L (up3L (up3L (up3L (up3L (up3L lM0 6 0 275647447) 6 1 9451996) 6 2 40477) 6 3 6491892) 6 4 70517) 6 5 847604) 6 6 5146) 6 7 286880) 6 8 259565) 6 9 3379448) 6 10 9596021) 6 11 8740238)) 0 0 := by
  refine GM.of (cc := cX12_letters) (maxL := 7) (ret := (some .long)) (own := RX12) (lv := [(0, .int 115), (1, .int 113), (2, .int 117), (3, .int 97), (4, .int 114), (5, .int 101), (6, .int 0)]) (by decide) rfl rfl (Nat.le_of_ble_eq_true rfl) rfl (fun κ sz hk hR hN => ?_)
  refine g_lconst (v := 0) hk dX12_letters_0 (by decide) ?_
  refine g_iload_n hk dX12_letters_1 rfl ?_
  refine g_callS (n := 2) hk (m104_X12_appends l D zt g r) (SP.same _) (fun _ h => h) (gi_S (List.mem_cons_of_mem _ (List.mem_append_left _ (List.mem_of_getElem? (i := 0) rfl))) (List.mem_cons_of_mem _ (List.mem_append_left _ (List.mem_of_getElem? (i := 1) rfl))) (List.mem_cons_of_mem _ (List.mem_append_left _ (List.mem_of_getElem? (i := 2) rfl))) (gi_sub (fun w h => (List.mem_cons_of_mem _ (List.mem_append_right _ (List.mem_append_left _ h)))) zg_m104_X12_appends)) rfl rfl rfl (by decide +kernel) ⟨Nat.le_of_ble_eq_true rfl, Nat.le_of_ble_eq_true rfl⟩ rfl rfl (Nat.le_of_ble_eq_true rfl) ⟨Nat.le_of_ble_eq_true rfl, Nat.le_of_ble_eq_true rfl⟩ dX12_letters_2 (fun v ty' w' hp hk' => ?_)
  obtain ⟨rfl, rfl⟩ := hp
  show GW κ 7 0 0 (wM r g (upd iM0 14 (-1)) (up3 (up3 (up3 (up3 aM0 13 0 2) 16 0 8) 13 1 2) 16 1 8) (up3L (up3L (up3L (up3L (up3L (up3L (up3L (up3L (up3L (up3L (up3L (up3L lM0 6 0 275647447) 6 1 9451996) 6 2 40477) 6 3 6491892) 6 4 70517) 6 5 847604) 6 6 5146) 6 7 286880) 6 8 259565) 6 9 3379448) 6 10 9596021) 6 11 8740238)) 5 [(0, .int 115), (1, .int 113), (2, .int 117), (3, .int 97), (4, .int 114), (5, .int 101), (6, .int 0)] [.long 19]
  refine g_iload_n hk dX12_letters_5 rfl ?_
  refine g_callS (n := 2) hk (m105_X12_appends l D zt g r) (SP.same _) (fun _ h => h) (gi_S (List.mem_cons_of_mem _ (List.mem_append_left _ (List.mem_of_getElem? (i := 0) rfl))) (List.mem_cons_of_mem _ (List.mem_append_left _ (List.mem_of_getElem? (i := 1) rfl))) (List.mem_cons_of_mem _ (List.mem_append_left _ (List.mem_of_getElem? (i := 2) rfl))) (gi_sub (fun w h => (List.mem_cons_of_mem _ (List.mem_append_right _ (List.mem_append_right _ (List.mem_append_left _ h))))) zg_m105_X12_appends)) rfl rfl rfl (by decide +kernel) ⟨Nat.le_of_ble_eq_true rfl, Nat.le_of_ble_eq_true rfl⟩ rfl rfl (Nat.le_of_ble_eq_true rfl) ⟨Nat.le_of_ble_eq_true rfl, Nat.le_of_ble_eq_true rfl⟩ dX12_letters_6 (fun v ty' w' hp hk' => ?_)
  obtain ⟨rfl, rfl⟩ := hp
  show GW κ 7 0 0 (wM r g (upd iM0 14 (-1)) (up3 (up3 (up3 (up3 aM0 13 0 2) 16 0 8) 13 1 2) 16 1 8) (up3L (up3L (up3L (up3L (up3L (up3L (up3L (up3L (up3L (up3L (up3L (up3L lM0 6 0 275647447) 6 1 9451996) 6 2 40477) 6 3 6491892) 6 4 70517) 6 5 847604) 6 6 5146) 6 7 286880) 6 8 259565) 6 9 3379448) 6 10 9596021) 6 11 8740238)) 9 [(0, .int 115), (1, .int 113), (2, .int 117), (3, .int 97), (4, .int 114), (5, .int 101), (6, .int 0)] [.long 530]
  refine g_iload_n hk dX12_letters_9 rfl ?_
  refine g_callS (n := 2) hk (m106_X12_appends l D zt g r) (SP.same _) (fun _ h => h) (gi_S (List.mem_cons_of_mem _ (List.mem_append_left _ (List.mem_of_getElem? (i := 0) rfl))) (List.mem_cons_of_mem _ (List.mem_append_left _ (List.mem_of_getElem? (i := 1) rfl))) (List.mem_cons_of_mem _ (List.mem_append_left _ (List.mem_of_getElem? (i := 2) rfl))) (gi_sub (fun w h => (List.mem_cons_of_mem _ (List.mem_append_right _ (List.mem_append_right _ (List.mem_append_right _ (List.mem_append_left _ h)))))) zg_m106_X12_appends)) rfl rfl rfl (by decide +kernel) ⟨Nat.le_of_ble_eq_true rfl, Nat.le_of_ble_eq_true rfl⟩ rfl rfl (Nat.le_of_ble_eq_true rfl) ⟨Nat.le_of_ble_eq_true rfl, Nat.le_of_ble_eq_true rfl⟩ dX12_letters_10 (fun v ty' w' hp hk' => ?_)
  obtain ⟨rfl, rfl⟩ := hp
  show GW κ 7 0 0 (wM r g (upd iM0 14 (-1)) (up3 (up3 (up3 (up3 aM0 13 0 2) 16 0 8) 13 1 2) 16 1 8) (up3L (up3L (up3L (up3L (up3L (up3L (up3L (up3L (up3L (up3L (up3L (up3L lM0 6 0 275647447) 6 1 9451996) 6 2 40477) 6 3 6491892) 6 4 70517) 6 5 847604) 6 6 5146) 6 7 286880) 6 8 259565) 6 9 3379448) 6 10 9596021) 6 11 8740238)) 13 [(0, .int 115), (1, .int 113), (2, .int 117), (3, .int 97), (4, .int 114), (5, .int 101), (6, .int 0)] [.long 14331]
  refine g_iload_n hk dX12_letters_13 rfl ?_
  refine g_callS (n := 2) hk (m107_X12_appends l D zt g r) (SP.same _) (fun _ h => h) (gi_S (List.mem_cons_of_mem _ (List.mem_append_left _ (List.mem_of_getElem? (i := 0) rfl))) (List.mem_cons_of_mem _ (List.mem_append_left _ (List.mem_of_getElem? (i := 1) rfl))) (List.mem_cons_of_mem _ (List.mem_append_left _ (List.mem_of_getElem? (i := 2) rfl))) (gi_sub (fun w h => (List.mem_cons_of_mem _ (List.mem_append_right _ (List.mem_append_right _ (List.mem_append_right _ (List.mem_append_right _ (List.mem_append_left _ h))))))) zg_m107_X12_appends)) rfl rfl rfl (by decide +kernel) ⟨Nat.le_of_ble_eq_true rfl, Nat.le_of_ble_eq_true rfl⟩ rfl rfl (Nat.le_of_ble_eq_true rfl) ⟨Nat.le_of_ble_eq_true rfl, Nat.le_of_ble_eq_true rfl⟩ dX12_letters_14 (fun v ty' w' hp hk' => ?_)
  obtain ⟨rfl, rfl⟩ := hp
  show GW κ 7 0 0 (wM r g (upd iM0 14 (-1)) (up3 (up3 (up3 (up3 aM0 13 0 2) 16 0 8) 13 1 2) 16 1 8) (up3L (up3L (up3L (up3L (up3L (up3L (up3L (up3L (up3L (up3L (up3L (up3L lM0 6 0 275647447) 6 1 9451996) 6 2 40477) 6 3 6491892) 6 4 70517) 6 5 847604) 6 6 5146) 6 7 286880) 6 8 259565) 6 9 3379448) 6 10 9596021) 6 11 8740238)) 17 [(0, .int 115), (1, .int 113), (2, .int 117), (3, .int 97), (4, .int 114), (5, .int 101), (6, .int 0)] [.long 386938]
  refine g_iload hk dX12_letters_17 rfl ?_
  refine g_callS (n := 2) hk (m108_X12_appends l D zt g r) (SP.same _) (fun _ h => h) (gi_S (List.mem_cons_of_mem _ (List.mem_append_left _ (List.mem_of_getElem? (i := 0) rfl))) (List.mem_cons_of_mem _ (List.mem_append_left _ (List.mem_of_getElem? (i := 1) rfl))) (List.mem_cons_of_mem _ (List.mem_append_left _ (List.mem_of_getElem? (i := 2) rfl))) (gi_sub (fun w h => (List.mem_cons_of_mem _ (List.mem_append_right _ (List.mem_append_right _ (List.mem_append_right _ (List.mem_append_right _ (List.mem_append_right _ (List.mem_append_left _ h)))))))) zg_m108_X12_appends)) rfl rfl rfl (by decide +kernel) ⟨Nat.le_of_ble_eq_true rfl, Nat.le_of_ble_eq_true rfl⟩ rfl rfl (Nat.le_of_ble_eq_true rfl) ⟨Nat.le_of_ble_eq_true rfl, Nat.le_of_ble_eq_true rfl⟩ dX12_letters_19 (fun v ty' w' hp hk' => ?_)
  obtain ⟨rfl, rfl⟩ := hp
  show GW κ 7 0 0 (wM r g (upd iM0 14 (-1)) (up3 (up3 (up3 (up3 aM0 13 0 2) 16 0 8) 13 1 2) 16 1 8) (up3L (up3L (up3L (up3L (up3L (up3L (up3L (up3L (up3L (up3L (up3L (up3L lM0 6 0 275647447) 6 1 9451996) 6 2 40477) 6 3 6491892) 6 4 70517) 6 5 847604) 6 6 5146) 6 7 286880) 6 8 259565) 6 9 3379448) 6 10 9596021) 6 11 8740238)) 22 [(0, .int 115), (1, .int 113), (2, .int 117), (3, .int 97), (4, .int 114), (5, .int 101), (6, .int 0)] [.long 10447344]
  refine g_iload hk dX12_letters_22 rfl ?_
  refine g_callS (n := 2) hk (m109_X12_appends l D zt g r) (SP.same _) (fun _ h => h) (gi_S (List.mem_cons_of_mem _ (List.mem_append_left _ (List.mem_of_getElem? (i := 0) rfl))) (List.mem_cons_of_mem _ (List.mem_append_left _ (List.mem_of_getElem? (i := 1) rfl))) (List.mem_cons_of_mem _ (List.mem_append_left _ (List.mem_of_getElem? (i := 2) rfl))) (gi_sub (fun w h => (List.mem_cons_of_mem _ (List.mem_append_right _ (List.mem_append_right _ (List.mem_append_right _ (List.mem_append_right _ (List.mem_append_right _ (List.mem_append_right _ (List.mem_append_left _ h))))))))) zg_m109_X12_appends)) rfl rfl rfl (by decide +kernel) ⟨Nat.le_of_ble_eq_true rfl, Nat.le_of_ble_eq_true rfl⟩ rfl rfl (Nat.le_of_ble_eq_true rfl) ⟨Nat.le_of_ble_eq_true rfl, Nat.le_of_ble_eq_true rfl⟩ dX12_letters_24 (fun v ty' w' hp hk' => ?_)
  obtain ⟨rfl, rfl⟩ := hp
  show GW κ 7 0 0 (wM r g (upd iM0 14 (-1)) (up3 (up3 (up3 (up3 aM0 13 0 2) 16 0 8) 13 1 2) 16 1 8) (up3L (up3L (up3L (up3L (up3L (up3L (up3L (up3L (up3L (up3L (up3L (up3L lM0 6 0 275647447) 6 1 9451996) 6 2 40477) 6 3 6491892) 6 4 70517) 6 5 847604) 6 6 5146) 6 7 286880) 6 8 259565) 6 9 3379448) 6 10 9596021) 6 11 8740238)) 27 [(0, .int 115), (1, .int 113), (2, .int 117), (3, .int 97), (4, .int 114), (5, .int 101), (6, .int 0)] [.long 282078293]
  refine g_iload hk dX12_letters_27 rfl ?_
  refine g_callS (n := 2) hk (m110_X12_appends l D zt g r) (SP.same _) (fun _ h => h) (gi_S (List.mem_cons_of_mem _ (List.mem_append_left _ (List.mem_of_getElem? (i := 0) rfl))) (List.mem_cons_of_mem _ (List.mem_append_left _ (List.mem_of_getElem? (i := 1) rfl))) (List.mem_cons_of_mem _ (List.mem_append_left _ (List.mem_of_getElem? (i := 2) rfl))) (gi_sub (fun w h => (List.mem_cons_of_mem _ (List.mem_append_right _ (List.mem_append_right _ (List.mem_append_right _ (List.mem_append_right _ (List.mem_append_right _ (List.mem_append_right _ (List.mem_append_right _ (List.mem_append_left _ h)))))))))) zg_m110_X12_appends)) rfl rfl rfl (by decide +kernel) ⟨Nat.le_of_ble_eq_true rfl, Nat.le_of_ble_eq_true rfl⟩ rfl rfl (Nat.le_of_ble_eq_true rfl) ⟨Nat.le_of_ble_eq_true rfl, Nat.le_of_ble_eq_true rfl⟩ dX12_letters_29 (fun v ty' w' hp hk' => ?_)
  obtain ⟨rfl, rfl⟩ := hp
  show GW κ 7 0 0 (wM r g (upd iM0 14 (-1)) (up3 (up3 (up3 (up3 aM0 13 0 2) 16 0 8) 13 1 2) 16 1 8) (up3L (up3L (up3L (up3L (up3L (up3L (up3L (up3L (up3L (up3L (up3L (up3L lM0 6 0 275647447) 6 1 9451996) 6 2 40477) 6 3 6491892) 6 4 70517) 6 5 847604) 6 6 5146) 6 7 286880) 6 8 259565) 6 9 3379448) 6 10 9596021) 6 11 8740238)) 32 [(0, .int 115), (1, .int 113), (2, .int 117), (3, .int 97), (4, .int 114), (5, .int 101), (6, .int 0)] [.long 282078293]
  exact g_lret hk hR ⟨rfl, rfl⟩ dX12_letters_32
def wo_m111_X12_begins : List Cond := [Cond.fieldLink RX12 73 "WarpDeskModel" "row" "[I", Cond.fieldLink RX12 43 "WarpDeskModel" "placesTold" "[I", Cond.fieldLink RX12 197 "WarpDeskModel" "live" "I", Cond.fieldLink RX12 58 "WarpDeskModel" "bandTold" "[I", Cond.fieldLink RX12 61 "WarpDeskModel" "levelTold" "[I", Cond.fieldLink RX12 64 "WarpDeskModel" "costTold" "[I", Cond.fieldLink RX12 67 "WarpDeskModel" "apartTold" "[I"]
def wz_m111_X12_begins : List Cond := .code yX12_begins cX12_begins 2 none :: (wo_m111_X12_begins ++ (wsX120 ++ ([] : List Cond)))
theorem zg_m111_X12_begins : ∀ w ∈ wz_m111_X12_begins, goodWord w = true := zg_cons rfl (zg_app (by decide +kernel) (zg_app zgU_wsX120 zg_nil))
theorem zi_m111_X12_begins : ∀ w ∈ wz_m111_X12_begins, w ∈ lw_tbl := zi_cons zw_1375 (zi_app (zi_cons zw_1414 (zi_cons zw_1404 (zi_cons zw_1400 (zi_cons zw_1409 (zi_cons zw_1410 (zi_cons zw_1411 (zi_cons zw_1412 zi_nil))))))) (zi_app inX12 zi_nil))
set_option maxHeartbeats 4000000 in
set_option maxRecDepth 100000 in
theorem m111_X12_begins (l : Launch) (D : va_G) (zt : Nat × Nat × Nat) (g : Nat → ClassId) (r : Nat → Nat) : GM l D zt (tyM g) yX12_begins wz_m111_X12_begins ({ frames := 0, cells := 0, slots := 0, locals := 0 } : Room) [.ref (r 0)] (wM r g (upd iM0 14 (-1)) (up3 (up3 (up3 (up3 aM0 13 0 2) 16 0 8) 13 1 2) 16 1 8) (up3L (up3L (up3L (up3L (up3L (up3L (up3L (up3L (up3L (up3L (up3L (up3L (up3L lM0 6 0 275647447) 6 1 9451996) 6 2 40477) 6 3 6491892) 6 4 70517) 6 5 847604) 6 6 5146) 6 7 286880) 6 8 259565) 6 9 3379448) 6 10 9596021) 6 11 8740238) 6 12 282078293)) (fun v _ w' => v = none ∧ w' = wM r g (upd iM0 14 (-1)) (up3 (up3 (up2 (up3 (up3 (up3 (up3 aM0 13 0 2) 16 0 8) 13 1 2) 16 1 8) 18 (cp (fun _ => 0) ((up3 (up3 (up3 (up3 aM0 13 0 2) 16 0 8) 13 1 2) 16 1 8) 18) 165)) 18 161 2) 18 164 8) (up3L (up3L (up3L (up3L (up3L (up3L (up3L (up3L (up3L (up3L (up3L (up3L (up3L lM0 6 0 275647447) 6 1 9451996) 6 2 40477) 6 3 6491892) 6 4 70517) 6 5 847604) 6 6 5146) 6 7 286880) 6 8 259565) 6 9 3379448) 6 10 9596021) 6 11 8740238) 6 12 282078293)) 0 0 := by
  refine GM.of (cc := cX12_begins) (maxL := 2) (ret := none) (own := RX12) (lv := [(0, .ref (r 0))]) (by decide) rfl rfl (Nat.le_of_ble_eq_true rfl) rfl (fun κ sz hk hR hN => ?_)
  have hin12 : ∀ w ∈ u_ws RX12 TX12 55, w ∈ wz_m111_X12_begins := fun w h => (List.mem_cons_of_mem _ (List.mem_append_right _ (List.mem_append_left _ h)))
  refine g_iconst (v := 0) hk dX12_begins_0 (by decide) ?_
  refine g_istore_n (lv' := [(1, .int 0), (0, .ref (r 0))]) hk dX12_begins_1 (by decide) rfl ?_
  have lp236 : ∀ (n238 k237 : Nat), k237 + n238 = 165 → GW κ 2 0 0 (wM r g (upd iM0 14 (-1)) (up2 (up3 (up3 (up3 (up3 aM0 13 0 2) 16 0 8) 13 1 2) 16 1 8) 18 (cp (fun _ => 0) ((up3 (up3 (up3 (up3 aM0 13 0 2) 16 0 8) 13 1 2) 16 1 8) 18) k237)) (up3L (up3L (up3L (up3L (up3L (up3L (up3L (up3L (up3L (up3L (up3L (up3L (up3L lM0 6 0 275647447) 6 1 9451996) 6 2 40477) 6 3 6491892) 6 4 70517) 6 5 847604) 6 6 5146) 6 7 286880) 6 8 259565) 6 9 3379448) 6 10 9596021) 6 11 8740238) 6 12 282078293)) 2 [(1, .int (nI k237)), (0, .ref (r 0))] [] := by
    intro n238
    induction n238 with
    | zero =>
      intro k237 hk237
      obtain rfl : k237 = 165 := by omega
      show GW κ 2 0 0 (wM r g (upd iM0 14 (-1)) (up2 (up3 (up3 (up3 (up3 aM0 13 0 2) 16 0 8) 13 1 2) 16 1 8) 18 (cp (fun _ => 0) ((up3 (up3 (up3 (up3 aM0 13 0 2) 16 0 8) 13 1 2) 16 1 8) 18) 165)) (up3L (up3L (up3L (up3L (up3L (up3L (up3L (up3L (up3L (up3L (up3L (up3L (up3L lM0 6 0 275647447) 6 1 9451996) 6 2 40477) 6 3 6491892) 6 4 70517) 6 5 847604) 6 6 5146) 6 7 286880) 6 8 259565) 6 9 3379448) 6 10 9596021) 6 11 8740238) 6 12 282078293)) 2 [(1, .int 165), (0, .ref (r 0))] []
      refine g_iload_n hk dX12_begins_2 rfl ?_
      refine g_sipush (v := 165) hk dX12_begins_3 (by decide) ?_
      refine g_icmp_ge (tgt := 22) (a := 165) (b := 165) hk dX12_begins_6 (by decide) rfl rfl (fun _ => ?_) (fun z9 => absurd (show (165 : Int) ≤ (165 : Int) from by decide) z9)
      refine g_aload_n hk dX12_begins_22 rfl ?_
      refine gM_r0_36 hk hin12 (List.mem_cons_of_mem _ (List.mem_append_left _ (List.mem_of_getElem? (i := 0) rfl))) dX12_begins_23 ?_
      refine g_iconst (v := 0) hk dX12_begins_26 (by decide) ?_
      refine g_aload_n hk dX12_begins_27 rfl ?_
      refine gM_r0_26 hk hin12 (List.mem_cons_of_mem _ (List.mem_append_left _ (List.mem_of_getElem? (i := 1) rfl))) dX12_begins_28 ?_
      refine g_aload_n hk dX12_begins_31 rfl ?_
      refine gM_i15 (v := 0) hk hin12 (List.mem_cons_of_mem _ (List.mem_append_left _ (List.mem_of_getElem? (i := 2) rfl))) dX12_begins_32 rfl ?_
      refine lM_8 (v := 0) hk (vp_in_iff.mpr ⟨by decide, by decide⟩) rfl dX12_begins_35 ?_
      refine sM_18 (j := 0) hk (vp_in_iff.mpr ⟨by decide, by decide⟩) (by decide) dX12_begins_36 ?_
      refine gM_same rfl ?_
      refine g_iconst (v := 0) hk dX12_begins_37 (by decide) ?_
      refine g_istore_n (lv' := [(1, .int 0), (0, .ref (r 0))]) hk dX12_begins_38 (by decide) rfl ?_
      refine g_iload_n hk dX12_begins_39 rfl ?_
      refine g_aload_n hk dX12_begins_40 rfl ?_
      refine gM_r0_36 hk hin12 (List.mem_cons_of_mem _ (List.mem_append_left _ (List.mem_of_getElem? (i := 0) rfl))) dX12_begins_41 ?_
      refine g_iconst (v := 0) hk dX12_begins_44 (by decide) ?_
      refine lM_18 (v := 0) hk (vp_in_iff.mpr ⟨by decide, by decide⟩) rfl dX12_begins_45 ?_
      refine g_icmp_ge (tgt := 78) (a := 0) (b := 0) hk dX12_begins_46 (by decide) rfl rfl (fun _ => ?_) (fun z9 => absurd (show (0 : Int) ≤ (0 : Int) from by decide) z9)
      refine g_aload_n hk dX12_begins_78 rfl ?_
      refine gM_r0_36 hk hin12 (List.mem_cons_of_mem _ (List.mem_append_left _ (List.mem_of_getElem? (i := 0) rfl))) dX12_begins_79 ?_
      refine g_sipush (v := 161) hk dX12_begins_82 (by decide) ?_
      refine g_aload_n hk dX12_begins_85 rfl ?_
      refine gM_r0_31 hk hin12 (List.mem_cons_of_mem _ (List.mem_append_left _ (List.mem_of_getElem? (i := 3) rfl))) dX12_begins_86 ?_
      refine g_aload_n hk dX12_begins_89 rfl ?_
      refine gM_i15 (v := 0) hk hin12 (List.mem_cons_of_mem _ (List.mem_append_left _ (List.mem_of_getElem? (i := 2) rfl))) dX12_begins_90 rfl ?_
      refine lM_13 (v := 2) hk (vp_in_iff.mpr ⟨by decide, by decide⟩) rfl dX12_begins_93 ?_
      refine sM_18 (j := 161) hk (vp_in_iff.mpr ⟨by decide, by decide⟩) (by decide) dX12_begins_94 ?_
      refine g_aload_n hk dX12_begins_95 rfl ?_
      refine gM_r0_36 hk hin12 (List.mem_cons_of_mem _ (List.mem_append_left _ (List.mem_of_getElem? (i := 0) rfl))) dX12_begins_96 ?_
      refine g_sipush (v := 162) hk dX12_begins_99 (by decide) ?_
      refine g_aload_n hk dX12_begins_102 rfl ?_
      refine gM_r0_32 hk hin12 (List.mem_cons_of_mem _ (List.mem_append_left _ (List.mem_of_getElem? (i := 4) rfl))) dX12_begins_103 ?_
      refine g_aload_n hk dX12_begins_106 rfl ?_
      refine gM_i15 (v := 0) hk hin12 (List.mem_cons_of_mem _ (List.mem_append_left _ (List.mem_of_getElem? (i := 2) rfl))) dX12_begins_107 rfl ?_
      refine lM_14 (v := 0) hk (vp_in_iff.mpr ⟨by decide, by decide⟩) rfl dX12_begins_110 ?_
      refine sM_18 (j := 162) hk (vp_in_iff.mpr ⟨by decide, by decide⟩) (by decide) dX12_begins_111 ?_
      refine gM_same rfl ?_
      refine g_aload_n hk dX12_begins_112 rfl ?_
      refine gM_r0_36 hk hin12 (List.mem_cons_of_mem _ (List.mem_append_left _ (List.mem_of_getElem? (i := 0) rfl))) dX12_begins_113 ?_
      refine g_sipush (v := 163) hk dX12_begins_116 (by decide) ?_
      refine g_aload_n hk dX12_begins_119 rfl ?_
      refine gM_r0_33 hk hin12 (List.mem_cons_of_mem _ (List.mem_append_left _ (List.mem_of_getElem? (i := 5) rfl))) dX12_begins_120 ?_
      refine g_aload_n hk dX12_begins_123 rfl ?_
      refine gM_i15 (v := 0) hk hin12 (List.mem_cons_of_mem _ (List.mem_append_left _ (List.mem_of_getElem? (i := 2) rfl))) dX12_begins_124 rfl ?_
      refine lM_15 (v := 0) hk (vp_in_iff.mpr ⟨by decide, by decide⟩) rfl dX12_begins_127 ?_
      refine sM_18 (j := 163) hk (vp_in_iff.mpr ⟨by decide, by decide⟩) (by decide) dX12_begins_128 ?_
      refine gM_same rfl ?_
      refine g_aload_n hk dX12_begins_129 rfl ?_
      refine gM_r0_36 hk hin12 (List.mem_cons_of_mem _ (List.mem_append_left _ (List.mem_of_getElem? (i := 0) rfl))) dX12_begins_130 ?_
      refine g_sipush (v := 164) hk dX12_begins_133 (by decide) ?_
      refine g_aload_n hk dX12_begins_136 rfl ?_
      refine gM_r0_34 hk hin12 (List.mem_cons_of_mem _ (List.mem_append_left _ (List.mem_of_getElem? (i := 6) rfl))) dX12_begins_137 ?_
      refine g_aload_n hk dX12_begins_140 rfl ?_
      refine gM_i15 (v := 0) hk hin12 (List.mem_cons_of_mem _ (List.mem_append_left _ (List.mem_of_getElem? (i := 2) rfl))) dX12_begins_141 rfl ?_
      refine lM_16 (v := 8) hk (vp_in_iff.mpr ⟨by decide, by decide⟩) rfl dX12_begins_144 ?_
      refine sM_18 (j := 164) hk (vp_in_iff.mpr ⟨by decide, by decide⟩) (by decide) dX12_begins_145 ?_
      exact g_vret hk hR ⟨rfl, rfl⟩ dX12_begins_146
    | succ n238 ih =>
      intro k237 hk237
      obtain ⟨x239, ex239⟩ : ∃ x : Int32, x = nI k237 := ⟨_, rfl⟩
      have hx239 : x239.toInt = (k237 : Int) := by rw [ex239]; exact nI_toInt (by omega)
      rw [← ex239]
      refine g_iload_n hk dX12_begins_2 rfl ?_
      refine g_sipush (v := 165) hk dX12_begins_3 (by decide) ?_
      refine g_icmp_ge (tgt := 22) (a := x239.toInt) (b := 165) hk dX12_begins_6 (by decide) rfl rfl (fun z9 => absurd z9 (show ¬ (165 ≤ x239.toInt) from by omega)) (fun _ => ?_)
      refine g_aload_n hk dX12_begins_9 rfl ?_
      refine gM_r0_36 hk hin12 (List.mem_cons_of_mem _ (List.mem_append_left _ (List.mem_of_getElem? (i := 0) rfl))) dX12_begins_10 ?_
      refine g_iload_n hk dX12_begins_13 rfl ?_
      refine g_iconst (v := 0) hk dX12_begins_14 (by decide) ?_
      refine sM_18 (j := k237) hk (vp_in_iff.mpr ⟨by omega, by omega⟩) (by rw [ex239]; exact nI_clamp (by omega)) dX12_begins_15 ?_
      obtain ⟨y240, ey240⟩ : ∃ y : Int32, y = x239 + Int32.ofInt 1 := ⟨_, rfl⟩
      refine g_iinc (v := y240) (lv' := [(1, .int y240), (0, .ref (r 0))]) hk 0 dX12_begins_16 rfl ey240.symm (by decide) rfl ?_
      have fy240 : y240 = nI (k237 + 1) := by rw [ey240, ex239]; exact nI_1 (k237)
      refine g_goto (tgt := 2) hk dX12_begins_19 (by decide) ?_
      rw [fy240]
      have eW : wM r g (upd iM0 14 (-1)) (up3 (up2 (up3 (up3 (up3 (up3 aM0 13 0 2) 16 0 8) 13 1 2) 16 1 8) 18 (cp (fun _ => 0) ((up3 (up3 (up3 (up3 aM0 13 0 2) 16 0 8) 13 1 2) 16 1 8) 18) k237)) 18 (k237) 0) (up3L (up3L (up3L (up3L (up3L (up3L (up3L (up3L (up3L (up3L (up3L (up3L (up3L lM0 6 0 275647447) 6 1 9451996) 6 2 40477) 6 3 6491892) 6 4 70517) 6 5 847604) 6 6 5146) 6 7 286880) 6 8 259565) 6 9 3379448) 6 10 9596021) 6 11 8740238) 6 12 282078293) = wM r g (upd iM0 14 (-1)) (up2 (up3 (up3 (up3 (up3 aM0 13 0 2) 16 0 8) 13 1 2) 16 1 8) 18 (cp (fun _ => 0) ((up3 (up3 (up3 (up3 aM0 13 0 2) 16 0 8) 13 1 2) 16 1 8) 18) (k237 + 1))) (up3L (up3L (up3L (up3L (up3L (up3L (up3L (up3L (up3L (up3L (up3L (up3L (up3L lM0 6 0 275647447) 6 1 9451996) 6 2 40477) 6 3 6491892) 6 4 70517) 6 5 847604) 6 6 5146) 6 7 286880) 6 8 259565) 6 9 3379448) 6 10 9596021) 6 11 8740238) 6 12 282078293) := by rw [← cp_s (fun _ => 0) ((up3 (up3 (up3 (up3 aM0 13 0 2) 16 0 8) 13 1 2) 16 1 8) 18) (k237)]; rfl
      rw [eW]
      exact g_lv (List.forall_mem_cons.mpr ⟨List.mem_of_getElem? (i := 0) rfl, (List.forall_mem_cons.mpr ⟨List.mem_of_getElem? (i := 1) rfl, (fun _ h => absurd h List.not_mem_nil)⟩)⟩) (ih (k237 + 1) (by omega))
  exact lp236 165 0 (by omega)
